/-! one number of a cell anew; more rules over the fixed graph -/
def sk_pi (I : sk_I) (q j : Nat) (v : Int32) : sk_I := sk_set I q (upd (I q) j v)
def sk_pj (J : sk_J) (q j : Nat) (v : Int64) : sk_J := sk_set J q (vp_updL (J q) j v)
def sk_shl (x : Int64) (y : Int32) : Int64 := x <<< (y.toInt64 &&& 63)
def sk_ushr (x : Int64) (y : Int32) : Int64 := (x.toUInt64 >>> (y.toInt64.toUInt64 &&& Int64.toUInt64 63)).toInt64
/-- the four places of Signals -/
def sk_sg (o : Nat) : Prop := o = 11 ∨ o = 20 ∨ o = 26 ∨ o = 31
theorem shS0 {o : Nat} (h : sk_sg o) : sk_gg.2.1[o]? = some (0, 2, 7) := by rcases h with rfl | rfl | rfl | rfl <;> rfl
theorem shS1 {o : Nat} (h : sk_sg o) : sk_gg.2.1[o + 1]? = some (3, 6, 0) := by rcases h with rfl | rfl | rfl | rfl <;> rfl
theorem shS2 {o : Nat} (h : sk_sg o) : sk_gg.2.1[o + 2]? = some (3, 6, 0) := by rcases h with rfl | rfl | rfl | rfl <;> rfl
theorem shS3 {o : Nat} (h : sk_sg o) : sk_gg.2.1[o + 3]? = some (3, 26, 0) := by rcases h with rfl | rfl | rfl | rfl <;> rfl
theorem shS4 {o : Nat} (h : sk_sg o) : sk_gg.2.1[o + 4]? = some (3, 26, 0) := by rcases h with rfl | rfl | rfl | rfl <;> rfl
theorem rrS0 {o : Nat} (h : sk_sg o) : sk_gg.2.2 o 0 = some 1 := by rcases h with rfl | rfl | rfl | rfl <;> rfl
theorem rrS1 {o : Nat} (h : sk_sg o) : sk_gg.2.2 o 1 = some (o + 1) := by rcases h with rfl | rfl | rfl | rfl <;> rfl
theorem rrS2 {o : Nat} (h : sk_sg o) : sk_gg.2.2 o 2 = some (o + 2) := by rcases h with rfl | rfl | rfl | rfl <;> rfl
theorem rrS3 {o : Nat} (h : sk_sg o) : sk_gg.2.2 o 3 = some (o + 3) := by rcases h with rfl | rfl | rfl | rfl <;> rfl
theorem rrS4 {o : Nat} (h : sk_sg o) : sk_gg.2.2 o 4 = some (o + 4) := by rcases h with rfl | rfl | rfl | rfl <;> rfl
theorem sk_Smono {Γ : sk_T} {M : sk_M} {mc ms : Nat} {as : List Value} {g : sk_G} {I : sk_I} {J : sk_J} {Q Q' : sk_Q} (h : sk_S Γ M mc ms as g I J Q) (hq : ∀ r g I J, Q r g I J → Q' r g I J) : sk_S Γ M mc ms as g I J Q' := by
  refine Free.MetFree.mono h (fun _ _ h => h) (fun _ _ _ _ _ h => h) (fun a st o t _ hE => ?_)
  rcases hE with ⟨⟨r, g', I', J', h1, h2, h3, h4⟩, h5⟩ | ⟨q, E, ce, g', I', J', L, h1, h2, h3⟩
  · exact Or.inl ⟨⟨r, g', I', J', h1, hq _ _ _ _ h2, h3, h4⟩, h5⟩
  · exact Or.inr ⟨q, E, ce, g', I', J', L, h1, hq _ _ _ _ h2, h3⟩
theorem sk_swOut3 {x : Int32} (h0 : ¬ x = 0) (h1 : ¬ x = 1) (h2 : ¬ x = 2) : x.toInt < 0 ∨ 2 < x.toInt := by
  have key : ∀ k : Int32, x.toInt = k.toInt → x = k := fun k h => Int32.toInt_inj.mp h
  by_cases hx : x.toInt < 0 ∨ 2 < x.toInt
  · exact hx
  · exfalso
    have h : x.toInt = 0 ∨ x.toInt = 1 ∨ x.toInt = 2 := by omega
    rcases h with h | h | h
    · exact h0 (key 0 (by rw [h]; rfl))
    · exact h1 (key 1 (by rw [h]; rfl))
    · exact h2 (key 2 (by rw [h]; rfl))
theorem sk_swOut6 {x : Int32} (h0 : ¬ x = 0) (h1 : ¬ x = 1) (h2 : ¬ x = 2) (h3 : ¬ x = 3) (h4 : ¬ x = 4) (h5 : ¬ x = 5) : x.toInt < 0 ∨ 5 < x.toInt := by
  have key : ∀ k : Int32, x.toInt = k.toInt → x = k := fun k h => Int32.toInt_inj.mp h
  by_cases hx : x.toInt < 0 ∨ 5 < x.toInt
  · exact hx
  · exfalso
    have h : x.toInt = 0 ∨ x.toInt = 1 ∨ x.toInt = 2 ∨ x.toInt = 3 ∨ x.toInt = 4 ∨ x.toInt = 5 := by omega
    rcases h with h | h | h | h | h | h
    · exact h0 (key 0 (by rw [h]; rfl))
    · exact h1 (key 1 (by rw [h]; rfl))
    · exact h2 (key 2 (by rw [h]; rfl))
    · exact h3 (key 3 (by rw [h]; rfl))
    · exact h4 (key 4 (by rw [h]; rfl))
    · exact h5 (key 5 (by rw [h]; rfl))
section SKP
variable {Γ : sk_T} {M : sk_M} {mc ms pc : Nat} {L : List (Nat × Value)} {S : List Value} {I : sk_I} {J : sk_J} {kc kn : Nat} {Q : sk_Q} {g : sk_G}
theorem r_putI {q ci N j idx : Nat} {v : Int32} (d : decode (sk_cc M) pc = .ok (.putfield idx, 3)) (hf : sk_fp (sk_own M) idx ci N j 0 .int false) (ho : g.2.1[q]? = some (0, ci, N)) (h : sk_W Γ M mc ms (pc + 3) L S g (sk_pi I q j v) J kc kn Q) : sk_W Γ M mc ms pc L (.int v :: .ref q :: S) g I J kc kn Q := q_putI d hf ho (Or.inl rfl) h
theorem r_putZ {q ci N j idx : Nat} {v : Int32} (d : decode (sk_cc M) pc = .ok (.putfield idx, 3)) (hf : sk_fp (sk_own M) idx ci N j 0 .boolean false) (ho : g.2.1[q]? = some (0, ci, N)) (hv : v = 0 ∨ v = 1) (h : sk_W Γ M mc ms (pc + 3) L S g (sk_pi I q j v) J kc kn Q) : sk_W Γ M mc ms pc L (.int v :: .ref q :: S) g I J kc kn Q := q_putZ d hf ho (Or.inl rfl) hv h
theorem r_putJ {q ci N j idx : Nat} {v : Int64} (d : decode (sk_cc M) pc = .ok (.putfield idx, 3)) (hf : sk_fp (sk_own M) idx ci N j 1 .long false) (ho : g.2.1[q]? = some (0, ci, N)) (h : sk_W Γ M mc ms (pc + 3) L S g I (sk_pj J q j v) kc kn Q) : sk_W Γ M mc ms pc L (.long v :: .ref q :: S) g I J kc kn Q := q_putJ d hf ho (Or.inl rfl) h
theorem r_iast {q n z : Nat} {i x : Int32} (d : decode (sk_cc M) pc = .ok (.iastore, 1)) (ho : g.2.1[q]? = some (1, n, z)) (hin : vp_in i n) (h : sk_W Γ M mc ms (pc + 1) L S g (sk_pi I q i.toNatClampNeg x) J kc kn Q) : sk_W Γ M mc ms pc L (.int x :: .int i :: .ref q :: S) g I J kc kn Q := sk_iast d ho hin h
theorem r_zast {q n z : Nat} {i x : Int32} (d : decode (sk_cc M) pc = .ok (.bastore, 1)) (ho : g.2.1[q]? = some (2, n, z)) (hin : vp_in i n) (hx : x = 0 ∨ x = 1) (h : sk_W Γ M mc ms (pc + 1) L S g (sk_pi I q i.toNatClampNeg x) J kc kn Q) : sk_W Γ M mc ms pc L (.int x :: .int i :: .ref q :: S) g I J kc kn Q := q_zast d ho hin hx h
theorem r_last {q n z : Nat} {i : Int32} {x : Int64} (d : decode (sk_cc M) pc = .ok (.lastore, 1)) (ho : g.2.1[q]? = some (3, n, z)) (hin : vp_in i n) (h : sk_W Γ M mc ms (pc + 1) L S g I (sk_pj J q i.toNatClampNeg x) kc kn Q) : sk_W Γ M mc ms pc L (.long x :: .int i :: .ref q :: S) g I J kc kn Q := sk_last d ho hin h
theorem r_lshl {x : Int64} {y : Int32} (d : decode (sk_cc M) pc = .ok (.lshl, 1)) (h : sk_W Γ M mc ms (pc + 1) L (.long (sk_shl x y) :: S) g I J kc kn Q) : sk_W Γ M mc ms pc L (.int y :: .long x :: S) g I J kc kn Q := sk_lshl d h
theorem r_lushr {x : Int64} {y : Int32} (d : decode (sk_cc M) pc = .ok (.lushr, 1)) (h : sk_W Γ M mc ms (pc + 1) L (.long (sk_ushr x y) :: S) g I J kc kn Q) : sk_W Γ M mc ms pc L (.int y :: .long x :: S) g I J kc kn Q := sk_lushr d h
end SKP
