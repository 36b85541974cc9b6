/-! the class: where a fault is -/
/-- a site and how it is told -/
def sl_sit (T : sl_ct) (s : Nat) (a b : Int32) : Prop := (s < cN T ∧ a = nI s ∧ b = -1) ∨ ∃ l, l < cN T ∧ ∃ j, j < sl_p1 (cD T l) ∧ s = cN T + sl_np (cD T) l + j ∧ a = nI l ∧ b = nI j
/-- the number of a fault -/
def sl_fr (T : sl_ct) (x y z : Int32) : Int32 :=
  if sl_nl T x ∨ z < 0 ∨ ¬ z ≤ 1 then -1 else if y = -1 then 2 * x + z else if y < 0 ∨ ¬ y < nI (sl_p1 (cD T x.toNatClampNeg)) then -1 else 2 * (nI (cN T + sl_np (cD T) x.toNatClampNeg) + y) + z
section XZ
variable {Γ : sk_T} {I : sk_I} {J : sk_J} {T : sl_ct} {lg : List (Nat × Nat)} {n : Nat}
theorem x_fault {x y z : Int32} {K : Int32 → sk_I → sk_J → Prop} (hc : sl_cl T lg n I J) (h : K (sl_fr T x y z) I J) : sk_S Γ m_X_fault 0 0 [.ref 0, .int x, .int y, .int z] sk_gg I J (sk_Ki K) := by
  refine sk_spec (by decide) rfl (by exact Nat.le_of_ble_eq_true rfl) ?_
  have hw := hc.1
  have hr := hc.2.1
  have hN := hw.1
  unfold sl_fr at h
  refine s_X_fault_0 (t_C_hasLine (s_X_fault_8 ?_))
  rw [hr.1.1]
  by_cases hx : sl_nl T x
  · rw [if_pos hx]
    rw [if_pos (Or.inl hx)] at h
    exact ⟨fun _ => ⟨_, rfl, rfl, h⟩, fun hn => absurd rfl hn⟩
  · rw [if_neg hx]
    obtain ⟨l, hl, rfl⟩ := sl_nl_of hw hx
    have hl31 : l < 2 ^ 31 := sl_lt31 (m := 26) (by omega) (by decide)
    refine ⟨fun hn => absurd hn (by decide), fun _ => ⟨fun z0 => ⟨_, rfl, rfl, ?_⟩, fun z0 => ⟨fun z1 => ⟨fun y1 => ⟨fun y0 => ⟨_, rfl, rfl, ?_⟩, fun y0 => t_C_pinsOf (by omega) (s_X_fault_46 ?_)⟩, fun y1 => ⟨_, rfl, rfl, ?_⟩⟩, fun z1 => ⟨_, rfl, rfl, ?_⟩⟩⟩⟩
    · rw [if_pos (Or.inr (Or.inl z0))] at h; exact h
    · rw [if_neg (fun hh => hh.elim hx (fun hh => hh.elim z0 (fun hh => hh z1))), if_neg y1, if_pos (Or.inl y0)] at h; exact h
    · rw [if_neg (fun hh => hh.elim hx (fun hh => hh.elim z0 (fun hh => hh z1))), if_neg y1, zI_cl hl31] at h
      have e5 := hr.2.2.2.1 l (by omega)
      have e5' := hr.2.2.2.1 (l + 1) (by omega)
      have ep : I 5 (l + 1) - I 5 l = nI (sl_p1 (cD T l)) := by
        rw [e5, e5', zI_sub (sl_np_mono (cD T) (by omega))]
        congr 1
        simp only [sl_np]; omega
      rw [ep, zI_cl hl31, hr.1.1, e5, zI_add]
      refine ⟨fun hlt => ⟨vp_nat (by omega) (by decide), _, rfl, rfl, ?_⟩, fun hge => ⟨_, rfl, rfl, ?_⟩⟩
      · rw [if_neg (fun hh => hh.elim y0 (fun hh => hh hlt))] at h; exact h
      · rw [if_pos (Or.inr hge)] at h; exact h
    · rw [if_neg (fun hh => hh.elim hx (fun hh => hh.elim z0 (fun hh => hh z1))), if_pos y1] at h; exact h
    · rw [if_pos (Or.inr (Or.inr z1))] at h; exact h
/-- the model finds the same number -/
theorem t_M_fault' {x y z : Int32} {K : Int32 → sk_I → sk_J → Prop} (hw : sl_wf T) (hm : sl_ms T lg I) (h : K (sl_fr T x y z) (sk_pi I 41 0 0) J) : sk_S Γ m_M_fault 0 0 [.ref 41, .int x, .int y, .int z] sk_gg I J (sk_Ki K) := by
  have hN := hw.1
  have hP : cP T ≤ 78 := sl_P_le hw
  have ho := hm.2.1
  unfold sl_fr at h
  refine t_M_fault hw hm (fun hz => ?_) (fun hno => ?_) (fun s hs h1 h2 z0 z1 => ?_)
  · rw [if_pos (Or.inr hz)] at h; exact h
  · by_cases hA : sl_nl T x ∨ z < 0 ∨ ¬ z ≤ 1
    · rw [if_pos hA] at h; exact h
    · rw [if_neg hA] at h
      obtain ⟨l, hl, rfl⟩ := sl_nl_of hw (fun hh => hA (Or.inl hh))
      have hl31 : l < 2 ^ 31 := sl_lt31 (m := 26) (by omega) (by decide)
      by_cases hy : y = -1
      · exact absurd ⟨(ho.2.2.2.1 l hl).1, by rw [hy]; exact (ho.2.2.2.1 l hl).2⟩ (hno l (by omega))
      · rw [if_neg hy, zI_cl hl31] at h
        by_cases hB : y < 0 ∨ ¬ y < nI (sl_p1 (cD T l))
        · rw [if_pos hB] at h; exact h
        · exfalso
          obtain ⟨j, hj31, rfl⟩ := zI_of (fun hh => hB (Or.inl hh))
          have hp3 := sl_p1_le hw hl
          have hjp : j < sl_p1 (cD T l) := by
            have : nI j < nI (sl_p1 (cD T l)) := Classical.byContradiction fun hh => hB (Or.inr hh)
            exact (zI_lt hj31 (sl_lt31 (m := 3) hp3 (by decide))).mp this
          have hlt : sl_np (cD T) l + j < cP T := sl_np_lt hl hjp
          exact hno (cN T + sl_np (cD T) l + j) (by omega) (ho.2.2.2.2 l hl j hjp)
  · rcases sl_site ho hs with ⟨hsN, e1, e2⟩ | ⟨l, hl, j, hj, es, e1, e2⟩
    · rw [h1] at e1
      rw [h2] at e2
      subst e1 e2
      rw [if_neg (fun hh => hh.elim (sl_nl_nI hw hsN) (fun hh => hh.elim z0 (fun hh => hh z1))), if_pos rfl] at h
      exact h
    · rw [h1] at e1
      rw [h2] at e2
      subst e1 e2
      have hp3 := sl_p1_le hw hl
      have hj31 : j < 2 ^ 31 := sl_lt31 (m := 3) (by omega) (by decide)
      rw [if_neg (fun hh => hh.elim (sl_nl_nI hw hl) (fun hh => hh.elim z0 (fun hh => hh z1))), if_neg (zI_m1 hj31), zI_cl (sl_lt31 (m := 26) (by omega) (by decide)), if_neg (fun hh => hh.elim (zI_nn hj31) (fun hh => hh ((zI_lt hj31 (sl_lt31 (m := 3) hp3 (by decide))).mpr hj))), zI_add, ← es] at h
      exact h
theorem x_faultAt_b1 {x y : Int32} {K : String → sk_I → sk_J → Prop} (hc : sl_cl T lg n I J) (hA : sl_nf T x) (h : K "java/lang/IndexOutOfBoundsException" I J) : sk_S Γ m_X_faultAt 1 6 [.ref 0, .int x, .int y] sk_gg I J (sk_Kx K) := by
  refine sk_spec (by decide) rfl (by exact Nat.le_of_ble_eq_true rfl) ?_
  exact s_X_faultAt_0 (Or.inr ⟨⟨by decide, by decide⟩, x_rFault_bad hc.2.1 hA ⟨_, rfl, rfl, h⟩⟩)
theorem sl_y3 {y : Int32} (h0 : ¬ y < 0) (h2 : y ≤ 2) : y = 0 ∨ y = 1 ∨ y = 2 := by
  obtain ⟨m, hm, rfl⟩ := zI_of h0
  rw [zI_2, zI_le hm (by decide)] at h2
  match m, h2 with
  | 0, _ => exact Or.inl rfl
  | 1, _ => exact Or.inr (Or.inl rfl)
  | 2, _ => exact Or.inr (Or.inr rfl)
  | m + 3, h2 => omega
theorem x_faultAt_b2 {q : Nat} {y : Int32} {K : String → sk_I → sk_J → Prop} (hc : sl_cl T lg n I J) (hA : ¬ sl_nf T (nI q)) (hq : q < cF T) (hy : y < 0 ∨ ¬ y ≤ 2) (h : K "java/lang/IllegalArgumentException" I J) : sk_S Γ m_X_faultAt 1 6 [.ref 0, .int (nI q), .int y] sk_gg I J (sk_Kx K) := by
  refine sk_spec (by decide) rfl (by exact Nat.le_of_ble_eq_true rfl) ?_
  have hw := hc.1
  have hr := hc.2.1
  have hF : cF T ≤ 208 := sl_F_le hw
  have h256 : ∀ r, some q = some r → r < 256 := fun r hr => by cases hr; omega
  have no : ∀ k : Int32, ¬ (k < 0 ∨ ¬ k ≤ 2) → ¬ y = k := fun k hk e => hk (e ▸ hy)
  refine s_X_faultAt_0 (Or.inl (x_rFault_ok hr hA (s_X_faultAt_5 (t_C_stuckLine (f := some q) hw hr.1.1 h256 (s_X_faultAt_13 (t_C_stuckPin (f := some q) hw hr.1.1 h256 (s_X_faultAt_22 ?_)))))))
  exact ⟨fun e => absurd e (no 0 (by decide)), fun e => absurd e (no 1 (by decide)), fun e => absurd e (no 2 (by decide)), fun _ _ _ => ⟨⟨by decide, by decide⟩, _, rfl, rfl, h⟩⟩
theorem x_faultAt_ok {q : Nat} {y a b : Int32} {K : Int32 → sk_I → sk_J → Prop} (hc : sl_cl T lg n I J) (hA : ¬ sl_nf T (nI q)) (hq : q < cF T) (y0 : ¬ y < 0) (y2 : y ≤ 2) (hs : sl_sit T (q / 2) a b)
    (h : K (if y = 0 then a else if y = 1 then b else nI (q % 2)) I J) : sk_S Γ m_X_faultAt 0 0 [.ref 0, .int (nI q), .int y] sk_gg I J (sk_Ki K) := by
  refine sk_spec (by decide) rfl (by exact Nat.le_of_ble_eq_true rfl) ?_
  have hw := hc.1
  have hr := hc.2.1
  have hN := hw.1
  have hF : cF T ≤ 208 := sl_F_le hw
  have h256 : ∀ r, some q = some r → r < 256 := fun r hr => by cases hr; omega
  refine s_X_faultAt_0 (Or.inl (x_rFault_ok hr hA (s_X_faultAt_5 (t_C_stuckLine (f := some q) hw hr.1.1 h256 (s_X_faultAt_13 (t_C_stuckPin (f := some q) hw hr.1.1 h256 (s_X_faultAt_22 ?_)))))))
  have e2 : y = 2 → (sk_Ki K) (.inl (some (.int (nI q &&& 1)))) sk_gg I J := by
    intro e
    subst e
    rw [zI_odd q (by omega)]
    exact ⟨_, rfl, rfl, h⟩
  have e3 : ¬ y = 0 → ¬ y = 1 → ¬ y = 2 → (1 ≤ 0 ∧ 6 ≤ 0) ∧ (sk_Ki K) (.inr "java/lang/IllegalArgumentException") sk_gg I J := by
    intro n0 n1 n2
    rcases sl_y3 y0 y2 with e | e | e
    · exact absurd e n0
    · exact absurd e n1
    · exact absurd e n2
  rcases hs with ⟨hsN, rfl, rfl⟩ | ⟨l, hl, j, hj, es, rfl, rfl⟩
  · have ep : sl_sp T (some q) = -1 := by simp only [sl_sp, if_pos hsN]
    have el : sl_sl T (some q) = nI (q / 2) := by simp only [sl_sl, if_pos hsN]
    rw [ep, el]
    refine ⟨fun e => ⟨fun hn => absurd rfl hn, fun _ => ⟨_, rfl, rfl, ?_⟩⟩, fun e => ⟨fun hn => absurd rfl hn, fun _ => ⟨_, rfl, rfl, ?_⟩⟩, e2, e3⟩
    · subst e; exact h
    · subst e; exact h
  · have hnl : ¬ q / 2 < cN T := by omega
    have eqn : q / 2 - cN T = sl_np (cD T) l + j := by omega
    have ep : sl_sp T (some q) = nI (sl_np (cD T) l + j) := by simp only [sl_sp, if_neg hnl]; rw [eqn]
    have hlt : sl_np (cD T) l + j < cP T := sl_np_lt hl hj
    have hP : cP T ≤ 78 := sl_P_le hw
    have h31 : sl_np (cD T) l + j < 2 ^ 31 := sl_lt31 (m := 78) (by omega) (by decide)
    have hl31 : l < 2 ^ 31 := sl_lt31 (m := 26) (by omega) (by decide)
    have e7 : I 7 (sl_np (cD T) l + j) = nI l := by
      cases hd : cD T l with
      | inl b => rw [hd] at hj; exact absurd hj (Nat.not_lt_zero _)
      | inr kp =>
        obtain ⟨k, ps⟩ := kp
        rw [hd] at hj
        have hj : j < ps.length := hj
        exact ((hr.2.2.1 l hl k ps hd).2.2 j _ (List.getElem?_eq_getElem hj)).2
    have e5 : I 5 l = nI (sl_np (cD T) l) := hr.2.2.2.1 l (by omega)
    rw [ep, zI_cl h31, e7, zI_cl hl31, e5, zI_sub (Nat.le_add_right _ _), Nat.add_sub_cancel_left]
    have vp : vp_in (nI (sl_np (cD T) l + j)) 78 := vp_nat (by omega) (by decide)
    refine ⟨fun e => ⟨fun _ => ⟨vp, _, rfl, rfl, ?_⟩, fun hn => absurd hn (zI_m1 h31)⟩, fun e => ⟨fun _ => ⟨vp, vp_nat (by omega) (by decide), _, rfl, rfl, ?_⟩, fun hn => absurd hn (zI_m1 h31)⟩, e2, e3⟩
    · subst e; exact h
    · subst e; exact h
end XZ
