/-! own: guards of the pure functions, the contracts' forms, the calls' join rows -/
def ok_I (i : Int32) (n : Nat) : Bool := decide (¬ (i < 0 ∨ n ≤ i.toNatClampNeg))
theorem ok_in {i : Int32} {n : Nat} (h : ok_I i n = true) : vp_in i n := by
  have h2 : ¬ (i < 0 ∨ n ≤ i.toNatClampNeg) := of_decide_eq_true h
  exact h2
def ok_Z (x : Int32) : Bool := decide (x = 0 ∨ x = 1)
theorem ok_nz {x : Int32} (h : ok_Z x = true) : narrow .boolean (.int x) = .int x := by
  rcases of_decide_eq_true h with rfl | rfl <;> rfl
theorem ok_fz {x : Int32} (h : ok_Z x = true) : fits .boolean (.int x) = true := by
  rcases of_decide_eq_true h with rfl | rfl <;> rfl
theorem gd_t {α : Type} {b : Bool} {x : Option α} {r : α} (h : (if b = true then x else none) = some r) : b = true ∧ x = some r := by
  cases b with
  | false => exact absurd h (by simp)
  | true => exact ⟨rfl, by simpa using h⟩
theorem gd_n {α : Type} {y : Int32} {x : Option α} {r : α} (h : (if y = 0 then none else x) = some r) : ¬ y = 0 ∧ x = some r := by
  by_cases hy : y = 0
  · rw [if_pos hy] at h; cases h
  · rw [if_neg hy] at h; exact ⟨hy, h⟩
theorem gd_l {α : Type} {y : Int64} {x : Option α} {r : α} (h : (if y = 0 then none else x) = some r) : ¬ y = 0 ∧ x = some r := by
  by_cases hy : y = 0
  · rw [if_pos hy] at h; cases h
  · rw [if_neg hy] at h; exact ⟨hy, h⟩
theorem bd_o {α β : Type} {o : Option α} {f : α → Option β} {r : β} (h : o.bind f = some r) : ∃ x, o = some x ∧ f x = some r := by
  cases o with
  | none => cases h
  | some x => exact ⟨x, rfl, h⟩
theorem sm_i {α : Type} {x r : α} (h : some x = some r) : x = r := Option.some.inj h
def FU_ : Nat := 8000
def rf_2 (a b : Nat) : Nat → Option Nat := va_up (va_up (fun _ => none) 0 (some a)) 1 (some b)
def rf_6 (a b c d e f : Nat) : Nat → Option Nat := va_up (va_up (va_up (va_up (va_up (va_up (fun _ => none) 0 (some a)) 1 (some b)) 2 (some c)) 3 (some d)) 4 (some e)) 5 (some f)
abbrev TY_ (ca : Nat → ClassId) : List (ClassId × FieldType) := [(ca 0, .int), (ca 1, .long), (ca 2, .byte), (ca 3, .boolean), (ca 4, .object "DropDealers$Kind"), (ca 5, .object "DropDealers$Now")]
def nw_l : List Cond := [.fieldLinkNest "DropDealers$Now" 28 "DropDealers$Hill" "water" "[I" "DropDealers", .fieldLinkNest "DropDealers$Beans" 17 "DropDealers$Hill" "need" "[I" "DropDealers", .fieldLinkNest "DropDealers$Foresight" 43 "DropDealers$Hill" "need" "[I" "DropDealers", .fieldLinkNest "DropDealers$Now" 88 "DropDealers$Hill" "need" "[I" "DropDealers", .fieldLinkNest "DropDealers" 110 "DropDealers$Hill" "need" "[I" "DropDealers", .fieldLinkNest "DropDealers$Maize" 17 "DropDealers$Hill" "dew" "[I" "DropDealers", .fieldLinkNest "DropDealers$Foresight" 40 "DropDealers$Hill" "dew" "[I" "DropDealers", .fieldLinkNest "DropDealers" 113 "DropDealers$Hill" "dew" "[I" "DropDealers", .fieldLinkNest "DropDealers$Now" 92 "DropDealers$Hill" "dew" "[I" "DropDealers", .fieldLinkNest "DropDealers$Foresight" 30 "DropDealers$Hill" "terraces" "I" "DropDealers", .fieldLinkNest "DropDealers$Now" 85 "DropDealers$Hill" "terraces" "I" "DropDealers", .fieldLinkNest "DropDealers$Reader" 88 "DropDealers$Hill" "terraces" "I" "DropDealers", .fieldLinkNest "DropDealers" 133 "DropDealers$Hill" "terraces" "I" "DropDealers", .fieldLinkNest "DropDealers$Reader" 103 "DropDealers$Hill" "days" "I" "DropDealers", .fieldLinkNest "DropDealers" 217 "DropDealers$Hill" "days" "I" "DropDealers", .fieldLinkNest "DropDealers$Now" 76 "DropDealers$Hill" "law" "I" "DropDealers", .fieldLinkNest "DropDealers$Reader" 110 "DropDealers$Hill" "law" "I" "DropDealers", .fieldLinkNest "DropDealers" 220 "DropDealers$Hill" "law" "I" "DropDealers", .fieldLinkNest "DropDealers$Now" 63 "DropDealers$Hill" "slip" "I" "DropDealers", .fieldLinkNest "DropDealers$SongOdds" 37 "DropDealers$Hill" "slip" "I" "DropDealers", .fieldLinkNest "DropDealers$Reader" 112 "DropDealers$Hill" "slip" "I" "DropDealers", .fieldLinkNest "DropDealers" 223 "DropDealers$Hill" "slip" "I" "DropDealers", .fieldLinkNest "DropDealers" 123 "DropDealers$Hill" "songLength" "I" "DropDealers", .fieldLinkNest "DropDealers$Foresight" 37 "DropDealers$Now" "water" "[I" "DropDealers", .fieldLinkNest "DropDealers$Kind" 17 "DropDealers$Now" "water" "[I" "DropDealers", .fieldLinkNest "DropDealers" 106 "DropDealers$Now" "water" "[I" "DropDealers", .fieldLinkNest "DropDealers$Moss" 18 "DropDealers$Now" "lacked" "[I" "DropDealers", .fieldLinkNest "DropDealers" 116 "DropDealers$Now" "lacked" "[I" "DropDealers", .fieldLinkNest "DropDealers$Foresight" 49 "DropDealers$Now" "day" "I" "DropDealers", .fieldLinkNest "DropDealers" 139 "DropDealers$Now" "day" "I" "DropDealers", .fieldLinkNest "DropDealers$Foresight" 46 "DropDealers$Now" "left" "I" "DropDealers", .fieldLinkNest "DropDealers" 130 "DropDealers$Now" "left" "I" "DropDealers", .fieldLinkNest "DropDealers" 149 "DropDealers$Now" "turn" "I" "DropDealers", .fieldLinkNest "DropDealers" 152 "DropDealers$Now" "lot" "I" "DropDealers", .fieldLinkNest "DropDealers" 199 "DropDealers$Now" "seen" "I" "DropDealers", .fieldLinkNest "DropDealers" 168 "DropDealers$Foresight" "share" "[I" "DropDealers", .fieldLinkNest "DropDealers" 189 "DropDealers$Foresight" "song" "[I" "DropDealers", .methodLinkNest "DropDealers" 9 ⟨"DropDealers$Reader", "<init>", "()V"⟩ "DropDealers", .methodLinkNest "DropDealers" 18 ⟨"DropDealers$Hill", "<init>", "()V"⟩ "DropDealers", .methodLinkNest "DropDealers" 28 ⟨"DropDealers$Now", "<init>", "()V"⟩ "DropDealers", .methodLinkNest "DropDealers" 43 ⟨"DropDealers$Foresight", "<init>", "()V"⟩ "DropDealers", .methodLinkNest "DropDealers" 50 ⟨"DropDealers$SongOdds", "<init>", "()V"⟩ "DropDealers", .methodLinkNest "DropDealers" 57 ⟨"DropDealers$Kind", "<init>", "()V"⟩ "DropDealers", .methodLinkNest "DropDealers" 60 ⟨"DropDealers$Beans", "<init>", "()V"⟩ "DropDealers", .methodLinkNest "DropDealers$Beans" 1 ⟨"DropDealers$Kind", "<init>", "()V"⟩ "DropDealers", .methodLinkNest "DropDealers" 63 ⟨"DropDealers$Maize", "<init>", "()V"⟩ "DropDealers", .methodLinkNest "DropDealers$Maize" 1 ⟨"DropDealers$Kind", "<init>", "()V"⟩ "DropDealers", .methodLinkNest "DropDealers" 66 ⟨"DropDealers$Old", "<init>", "()V"⟩ "DropDealers", .methodLinkNest "DropDealers$Old" 1 ⟨"DropDealers$Beans", "<init>", "()V"⟩ "DropDealers", .methodLinkNest "DropDealers" 69 ⟨"DropDealers$High", "<init>", "()V"⟩ "DropDealers", .methodLinkNest "DropDealers$High" 1 ⟨"DropDealers$Maize", "<init>", "()V"⟩ "DropDealers", .methodLinkNest "DropDealers" 72 ⟨"DropDealers$Moss", "<init>", "()V"⟩ "DropDealers", .methodLinkNest "DropDealers$Moss" 1 ⟨"DropDealers$Kind", "<init>", "()V"⟩ "DropDealers"]
def NW_ (U : State) : Prop := ∀ w ∈ nw_l, va_Nw w U
def nw_k : Cond → Bool
  | .fieldLinkNest _ _ _ _ _ _ => true
  | .methodLinkNest _ _ _ _ => true
  | _ => false
theorem nw_kk : nw_l.all nw_k = true := by decide +kernel
theorem nw_kt : nw_l.all Cond.onTables = true := by decide +kernel
theorem NW_.warm {s U : State} (hW : s.WarmedH U.vm) (h : NW_ s) : NW_ U := by
  intro w hw
  have hk : nw_k w = true := List.all_eq_true.mp nw_kk w hw
  have h1 := h w hw
  cases w <;> first | exact va_Nw.warmF hW h1 | exact va_Nw.warmM hW h1 | (simp [nw_k] at hk; done)
theorem NW_.same {u U : State} (hv : u.vm = U.vm) (h : NW_ u) : NW_ U := fun w hw => va_Nw.same (List.all_eq_true.mp nw_kt w hw) hv (h w hw)
def st_len : List Nat := [7, 4, 3, 4, 4]
def st_byt : List (List Int32) := [[116, 101, 114, 114, 97, 99, 101], [100, 114, 105, 112], [108, 97, 119], [115, 108, 105, 112], [115, 111, 110, 103]]
def ST_ (ad : Nat → Nat) (U : State) : Prop := vk_R RX9 50 "terrace" (ad 0) U ∧ vk_R RX9 59 "drip" (ad 1) U ∧ vk_R RX9 64 "law" (ad 2) U ∧ vk_R RX9 69 "slip" (ad 3) U ∧ vk_R RX9 74 "song" (ad 4) U
theorem ST_.warm {ad : Nat → Nat} {s U : State} (hW : s.WarmedH U.vm) (h : ST_ ad s) : ST_ ad U := ⟨h.1.warm hW, h.2.1.warm hW, h.2.2.1.warm hW, h.2.2.2.1.warm hW, h.2.2.2.2.warm hW⟩
theorem ST_.same {ad : Nat → Nat} {u U : State} (hv : U.vm = u.vm) (h : ST_ ad u) : ST_ ad U := ⟨h.1.same hv, h.2.1.same hv, h.2.2.1.same hv, h.2.2.2.1.same hv, h.2.2.2.2.same hv⟩
/-- what stays through every call: links of nest mates, the String constants, two statics of the JDK -/
def EX_ (ad av : Nat → Nat) (A : Nat → Prop) (U : State) (H : Heap) : Prop := NW_ U ∧ ST_ ad U ∧ vk_S 5 st_len st_byt ad av A U H ∧ va_Z "java/lang/String" "COMPACT_STRINGS" "Z" (.int 1) A U H ∧ va_Zq "jdk/internal/util/Preconditions" "SIOOBE_FORMATTER" "Ljava/util/function/BiFunction;" A U H
theorem EX_.warm {ad av : Nat → Nat} {A : Nat → Prop} {s U : State} {H : Heap} (hW : s.WarmedH U.vm) (h : EX_ ad av A s H) : EX_ ad av A U H := ⟨h.1.warm hW, h.2.1.warm hW, h.2.2.1.moved hW.alike, h.2.2.2.1.moved hW.alike, h.2.2.2.2.moved hW.alike⟩
theorem EX_.call {ad av : Nat → Nat} {A : Nat → Prop} {U : State} {H : Heap} (g : JFrame) (mk : MethodId) (a : Array Value) (h : EX_ ad av A U H) : EX_ ad av A (U.calling g mk a) H := ⟨h.1.same (u := U) (U := U.calling g mk a) rfl, h.2.1.same (u := U) (U := U.calling g mk a) rfl, h.2.2.1.moved (u := U) (U := U.calling g mk a) (Vm.Alike.refl U.vm), h.2.2.2.1.moved (u := U) (U := U.calling g mk a) (Vm.Alike.refl U.vm), h.2.2.2.2.moved (u := U) (U := U.calling g mk a) (Vm.Alike.refl U.vm)⟩
theorem EX_.kept {ad av : Nat → Nat} {A : Nat → Prop} {U : State} {H H1 : Heap} (h : EX_ ad av A U H) (hq : ∀ a : Nat, a < H.size → ¬ A a → H1[a]? = H[a]?) : EX_ ad av A U H1 := ⟨h.1, h.2.1, h.2.2.1.kept hq, h.2.2.2.1.kept hq, h.2.2.2.2.kept hq⟩
theorem EX_.narrow {ad av : Nat → Nat} {A B : Nat → Prop} {U : State} {H : Heap} (h : EX_ ad av A U H) (hAB : ∀ q, B q → A q) : EX_ ad av B U H := ⟨h.1, h.2.1, h.2.2.1.narrow hAB, h.2.2.2.1.narrow hAB, h.2.2.2.2.narrow hAB⟩
/-- a contract's start: the world ws, the heap's size, what stays -/
def PW_ (G : va_G) (ca : Nat → ClassId) (ad av : Nat → Nat) (sz : Nat) (ws : va_W) (U : State) : Prop := U.heap.size = sz ∧ va_P G vwCl ws U.heap ∧ va_K G vwCl (TY_ ca) U ∧ va_D (fun _ => True) ws ∧ EX_ ad av (va_A ws sz) U U.heap
theorem PW_.blind {vs : List Value} {G : va_G} {ca : Nat → ClassId} {ad av : Nat → Nat} {sz : Nat} {ws : va_W} : FrameBlind (va_Pc vs (PW_ G ca ad av sz ws)) := by
  intro a U g mk q
  obtain ⟨q0, q1, qP, qK, qD, qE⟩ := q
  exact ⟨q0, q1, qP, va_K.moved (u := U) (U := U.calling g mk a) (Vm.Alike.refl U.vm) qK, qD, qE.call g mk a⟩
abbrev QI_ (G : va_G) (A : Nat → Prop) (r : Int32) (ws : va_W) : Array Value → State → Outcome → State → Prop := va_Qi (fun (x : Int32) (_ : Unit) => x = r) (fun _ t => va_P G vwCl ws t.heap ∧ va_D A ws) A
abbrev QL_ (G : va_G) (A : Nat → Prop) (r : Int64) (ws : va_W) : Array Value → State → Outcome → State → Prop := va_Ql (fun (x : Int64) (_ : Unit) => x = r) (fun _ t => va_P G vwCl ws t.heap ∧ va_D A ws) A
abbrev QV_ (G : va_G) (A : Nat → Prop) (ws : va_W) : Array Value → State → Outcome → State → Prop := va_Qv (fun (_ : Unit) => True) (fun _ t => va_P G vwCl ws t.heap ∧ va_D A ws) A
abbrev QR_ (G : va_G) (A : Nat → Prop) (r : Nat) (ws : va_W) : Array Value → State → Outcome → State → Prop := va_Qr (fun (_ : Unit) => True) (fun _ a t => a = r ∧ va_P G vwCl ws t.heap ∧ va_D A ws) A
/-- what a walk stands on, from its method's entry to its end -/
def CX_ (p : Program) (s : State) (m : MethodId) (args : Array Value) (meth : Method) (c : Code) (cc : ByteArray) (nL : Nat) (ret : Option FieldType) (Ts : List Cond) (own : String) (G : va_G) (ca : Nat → ClassId) (ad av : Nat → Nat) (A : Nat → Prop) : Prop :=
  p.tables.exec = Jvm.exec ∧ c.code = cc ∧ meth.sig.returnType = ret ∧ c.maxLocals = nL ∧ s.vm.findClass own = some m.cls ∧ (∀ w ∈ Ts, w.before args s = true) ∧ meth.locks = false ∧ va_K G vwCl (TY_ ca) s ∧ (∀ q, s.heap.size ≤ q → A q) ∧ EX_ ad av A s s.heap
theorem en_t {p : Program} {l : Launch} {y : MethodName} {ws : List Cond} {rm : Room} {cc : ByteArray} {maxL : Nat} {ret : Option FieldType} {e : Env} {s : State} {m : MethodId} {args : Array Value} {below : List Frame} {meth : Method} {c : Code} {s₁ : State} {vs : List Value} {G : va_G} {ca : Nat → ClassId} {ad av : Nat → Nat} {sz : Nat} {W0 : va_W}
    (B : BodyLoose p l y (headSpec ws rm) cc maxL ret e s m args below meth c s₁) (hml : c.maxLocals = maxL) (hv : va_Pc vs (PW_ G ca ad av sz W0) args s) :
    CX_ p s m args meth c cc maxL ret ws y.cls G ca ad av (va_A W0 s.heap.size) ∧ args = vs.toArray ∧ s.heap.size = sz ∧ va_P G vwCl W0 s.heap ∧ va_D (va_A W0 s.heap.size) W0 := by
  obtain ⟨h0, hsz, hP, hK, hD, hE⟩ := hv
  subst hsz
  exact ⟨⟨B.exec, B.bytes, B.returns, hml, findClass_of_methodNamed B.named, atoms_spec (ws := ws) B.pre, B.notSynchronized, hK, fun q h => Or.inr h, hE⟩, h0, rfl, hP, hD.self⟩
section JN
variable {p : Program} {l : Launch} {e : Env} {R : Room} {s : State} {m : MethodId} {args : Array Value} {below : List Frame} {meth : Method} {c : Code} {H : Heap} {locs : List Loc} {Q : State → Prop}
variable {pc : Nat} {ls : Array Slot} {rest st0 : List Value} {a : Array Value} {A : Nat → Prop} {G : va_G} {ca : Nat → ClassId} {ad av : Nat → Nat} {ws wc wr w1 ws' : va_W}
/-- the callee's start, out of the caller's world -/
theorem pre_s (hK : va_K G vwCl (TY_ ca) s) (hE : EX_ ad av A s s.heap) (hA : ∀ q, s.heap.size ≤ q → A q) (hP : va_P G vwCl ws H) (hD : va_D A ws) (hS : va_S A s.heap H locs) (isC : List Nat) (hC : isC.map (fun i => ws[i]?) = wc.map some) (hn : va_nd isC = true) {vs : List Value} : PreS s H (va_Pc vs (PW_ G ca ad av H.size wc)) vs := by
  have hF := va_free (wc := wc) hD hS hA isC hC
  have hDc := hD.sub (ws' := wc) isC hn hC
  have hPc : va_P G vwCl wc H := by
    intro k q hk
    have h1 : (isC.map (fun i => ws[i]?))[k]? = some (some q) := by rw [hC, List.getElem?_map, hk]; rfl
    rw [List.getElem?_map] at h1
    cases hi : isC[k]? with
    | none => rw [hi] at h1; cases h1
    | some i => rw [hi] at h1; exact hP i q (Option.some.inj h1)
  refine ⟨PW_.blind, fun U hU hW => ⟨rfl, by rw [hU], by rw [hU]; exact hPc, va_K.moved hW.alike hK, hDc.weaken (fun _ _ _ _ => trivial), ?_⟩⟩
  rw [hU]
  exact ((hE.warm hW).kept hS.2.1).narrow hF
theorem pre_v {b q0 ci : Nat} {fs : List Value} {q : vw_C} {As : List Value} (hK : va_K G vwCl (TY_ ca) s) (hE : EX_ ad av A s s.heap) (hA : ∀ q, s.heap.size ≤ q → A q) (hP : va_P G vwCl ws H) (hD : va_D A ws) (hS : va_S A s.heap H locs) (isC : List Nat) (hC : isC.map (fun i => ws[i]?) = wc.map some) (hn : va_nd isC = true) (hc : vwCl[ci]? = some q) (he : ws[q0]? = some (b, .inr (ci, fs))) : PreV s H q.1 b (va_Pc (.ref b :: As) (PW_ G ca ad av H.size wc)) As := by
  have h := pre_s (vs := .ref b :: As) hK hE hA hP hD hS isC hC hn
  exact ⟨h.1, va_recv hK hP hc he, h.2⟩
theorem jn_x (hA : ∀ q, s.heap.size ≤ q → A q) (hP : va_P G vwCl ws H) (hD : va_D A ws) (hS : va_S A s.heap H locs) (isC isR pm : List Nat) (hC : isC.map (fun i => ws[i]?) = wc.map some) (hR : isR.map (fun i => ws[i]?) = wr.map some) (hn : va_nd isR = true) (hdis : ∀ i ∈ isR, i ∉ isC) (hnd : va_nd pm = true) (hpm : pm.map (fun i => (wr ++ w1)[i]?) = ws'.map some) {H1 : Heap} (hk : ∀ q : Nat, q < H.size → ¬ va_A wc H.size q → H1[q]? = H[q]?) (hP1 : va_P G vwCl w1 H1) (hD1 : va_D (va_A wc H.size) w1) : va_P G vwCl ws' H1 ∧ va_D A ws' := by
  obtain ⟨hP2, hD2⟩ := va_join (wr := wr) (w1 := w1) hP hD isC isR hC hR hn hdis hk (va_free (wc := wc) hD hS hA isC hC) hP1 hD1
  refine ⟨fun k q hk => ?_, hD2.sub pm hnd hpm⟩
  have h1 : (pm.map (fun i => (wr ++ w1)[i]?))[k]? = some (some q) := by rw [hpm, List.getElem?_map, hk]; rfl
  rw [List.getElem?_map] at h1
  cases hi : pm[k]? with
  | none => rw [hi] at h1; cases h1
  | some i => rw [hi] at h1; exact hP2 i q (Option.some.inj h1)
theorem jn_i {r : Int32} (hr : va_Run p l e R s m args below meth c H locs 0 0 0 0 (F0 m pc ls st0) rest (QI_ G (va_A wc H.size) r w1 a) (va_A wc H.size)) (hA : ∀ q, s.heap.size ≤ q → A q) (hP : va_P G vwCl ws H) (hD : va_D A ws) (hS : va_S A s.heap H locs) (isC isR pm : List Nat) (hC : isC.map (fun i => ws[i]?) = wc.map some) (hR : isR.map (fun i => ws[i]?) = wr.map some) (hn : va_nd isR = true) (hdis : ∀ i ∈ isR, i ∉ isC) (hnd : va_nd pm = true) (hpm : pm.map (fun i => (wr ++ w1)[i]?) = ws'.map some)
    (kk : ∀ (H1 : Heap) (locs1 : List Loc), va_P G vwCl ws' H1 → va_D A ws' → va_S A s.heap H1 locs1 → W p l e R s m args below meth c H1 locs1 0 0 Q (F0 m (pc + 3) ls (.int r :: rest))) : W p l e R s m args below meth c H locs 0 0 Q (F0 m pc ls st0) := by
  have hF := va_free (wc := wc) hD hS hA isC hC
  refine va_calli hr hS (fun q _ h => hF q h) hF (fun x u t H1 locs1 ht hvm hw hB hz1 hk1 hS1 => ?_)
  obtain ⟨hP1, hD1⟩ := hB
  have hw : x = r := hw
  subst hw
  rw [ht] at hP1
  obtain ⟨hP2, hD2⟩ := jn_x hA hP hD hS isC isR pm hC hR hn hdis hnd hpm hk1 hP1 hD1
  exact kk H1 locs1 hP2 hD2 hS1
theorem jn_l {r : Int64} (hr : va_Run p l e R s m args below meth c H locs 0 0 0 0 (F0 m pc ls st0) rest (QL_ G (va_A wc H.size) r w1 a) (va_A wc H.size)) (hA : ∀ q, s.heap.size ≤ q → A q) (hP : va_P G vwCl ws H) (hD : va_D A ws) (hS : va_S A s.heap H locs) (isC isR pm : List Nat) (hC : isC.map (fun i => ws[i]?) = wc.map some) (hR : isR.map (fun i => ws[i]?) = wr.map some) (hn : va_nd isR = true) (hdis : ∀ i ∈ isR, i ∉ isC) (hnd : va_nd pm = true) (hpm : pm.map (fun i => (wr ++ w1)[i]?) = ws'.map some)
    (kk : ∀ (H1 : Heap) (locs1 : List Loc), va_P G vwCl ws' H1 → va_D A ws' → va_S A s.heap H1 locs1 → W p l e R s m args below meth c H1 locs1 0 0 Q (F0 m (pc + 3) ls (.long r :: rest))) : W p l e R s m args below meth c H locs 0 0 Q (F0 m pc ls st0) := by
  have hF := va_free (wc := wc) hD hS hA isC hC
  refine va_calll hr hS (fun q _ h => hF q h) hF (fun x u t H1 locs1 ht hvm hw hB hz1 hk1 hS1 => ?_)
  obtain ⟨hP1, hD1⟩ := hB
  have hw : x = r := hw
  subst hw
  rw [ht] at hP1
  obtain ⟨hP2, hD2⟩ := jn_x hA hP hD hS isC isR pm hC hR hn hdis hnd hpm hk1 hP1 hD1
  exact kk H1 locs1 hP2 hD2 hS1
theorem jn_v (hr : va_Run p l e R s m args below meth c H locs 0 0 0 0 (F0 m pc ls st0) rest (QV_ G (va_A wc H.size) w1 a) (va_A wc H.size)) (hA : ∀ q, s.heap.size ≤ q → A q) (hP : va_P G vwCl ws H) (hD : va_D A ws) (hS : va_S A s.heap H locs) (isC isR pm : List Nat) (hC : isC.map (fun i => ws[i]?) = wc.map some) (hR : isR.map (fun i => ws[i]?) = wr.map some) (hn : va_nd isR = true) (hdis : ∀ i ∈ isR, i ∉ isC) (hnd : va_nd pm = true) (hpm : pm.map (fun i => (wr ++ w1)[i]?) = ws'.map some)
    (kk : ∀ (H1 : Heap) (locs1 : List Loc), va_P G vwCl ws' H1 → va_D A ws' → va_S A s.heap H1 locs1 → W p l e R s m args below meth c H1 locs1 0 0 Q (F0 m (pc + 3) ls (rest))) : W p l e R s m args below meth c H locs 0 0 Q (F0 m pc ls st0) := by
  have hF := va_free (wc := wc) hD hS hA isC hC
  refine va_callv hr hS (fun q _ h => hF q h) hF (fun u t H1 locs1 ht hvm hw hB hz1 hk1 hS1 => ?_)
  obtain ⟨hP1, hD1⟩ := hB
  rw [ht] at hP1
  obtain ⟨hP2, hD2⟩ := jn_x hA hP hD hS isC isR pm hC hR hn hdis hnd hpm hk1 hP1 hD1
  exact kk H1 locs1 hP2 hD2 hS1
theorem jn_r {r : Nat} (hr : va_Run p l e R s m args below meth c H locs 0 0 0 0 (F0 m pc ls st0) rest (QR_ G (va_A wc H.size) r w1 a) (va_A wc H.size)) (hA : ∀ q, s.heap.size ≤ q → A q) (hP : va_P G vwCl ws H) (hD : va_D A ws) (hS : va_S A s.heap H locs) (isC isR pm : List Nat) (hC : isC.map (fun i => ws[i]?) = wc.map some) (hR : isR.map (fun i => ws[i]?) = wr.map some) (hn : va_nd isR = true) (hdis : ∀ i ∈ isR, i ∉ isC) (hnd : va_nd pm = true) (hpm : pm.map (fun i => (wr ++ w1)[i]?) = ws'.map some)
    (kk : ∀ (H1 : Heap) (locs1 : List Loc), va_P G vwCl ws' H1 → va_D A ws' → va_S A s.heap H1 locs1 → W p l e R s m args below meth c H1 locs1 0 0 Q (F0 m (pc + 3) ls (.ref r :: rest))) : W p l e R s m args below meth c H locs 0 0 Q (F0 m pc ls st0) := by
  have hF := va_free (wc := wc) hD hS hA isC hC
  refine va_callr hr hS (fun q _ h => hF q h) hF (fun u ra t H1 locs1 ht hvm hw hB hz1 hk1 hS1 => ?_)
  obtain ⟨rfl, hP1, hD1⟩ := hB
  rw [ht] at hP1
  obtain ⟨hP2, hD2⟩ := jn_x hA hP hD hS isC isR pm hC hR hn hdis hnd hpm hk1 hP1 hD1
  exact kk H1 locs1 hP2 hD2 hS1
end JN
