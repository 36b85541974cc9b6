/-! the model's own calls: packed, log, forget, explains -/
theorem sl_fil {P : Nat → Bool} {xs : List Nat} {i : Nat} (hi : i < xs.length) (h : P xs[i] = true) : xs.filter P = (xs.take i).filter P ++ xs[i] :: (xs.drop (i + 1)).filter P := by
  have e := congrArg (List.filter P) (List.take_append_drop i xs).symm
  rw [List.filter_append, List.drop_eq_getElem_cons hi, List.filter_cons_of_pos h] at e
  exact e
section MT
variable {Γ : sk_T} {I : sk_I} {J : sk_J} {T : sl_ct} {lg : List (Nat × Nat)}
theorem t_M_packed {x : Int32} {K : Int32 → sk_I → sk_J → Prop} (hw : sl_wf T) (hm : sl_ms T lg I)
    (h : ∀ I' : sk_I, sl_ms T lg I' → (∀ q, q < 41 ∨ 60 < q → I' q = I q) → K (sl_pa (sl_pk T) x) I' J) : sk_S Γ m_M_packed 0 0 [.ref 41, .int x] sk_gg I J (sk_Ki K) := by
  refine sk_spec (by decide) rfl (by exact Nat.le_of_ble_eq_true rfl) ?_
  have hm0 := sl_ms_code hm 0
  have hpl : (sl_pl T).length ≤ 64 := sl_ga_len hw _
  have hpl31 : (sl_pl T).length < 2 ^ 31 := sl_lt31 (m := 64) hpl (by decide)
  refine s_M_packed_0 ?_
  refine t_M_pack hw hm0.1 hm0.2.1 hm0.2.2.1 hm0.2.2.2.1 (fun I' f g k n p => ?_)
  have hm' : sl_ms T lg I' := by
    obtain ⟨a, b, c, d, e⟩ := hm0
    refine ⟨sl_mb_frame a (fun j hj => g j (by omega) (by omega) (by omega)) (fun q x y => f q (by omega) (by omega) (by omega) (by omega) (by omega) (by omega)), sl_mo_frame b (fun j hj => g j (by omega) (by omega) (by omega)) (fun q x y => f q (by omega) (by omega) (by omega) (by omega) (by omega) (by omega)), k, p, ?_⟩
    unfold sl_ml at e ⊢
    rw [g 26 (by decide) (by decide) (by decide), f 59 (by decide) (by decide) (by decide) (by decide) (by decide) (by decide), f 60 (by decide) (by decide) (by decide) (by decide) (by decide) (by decide)]; exact e
  have r := h I' hm' (fun q hq => by rw [f q (by omega) (by omega) (by omega) (by omega) (by omega) (by omega), sl_hq0 0 q hq])
  obtain ⟨b3, b7, b8⟩ := p n
  refine s_M_packed_9 ?_
  have loop : ∀ d i, i + d = (sl_pl T).length → (∀ m, m < (((sl_pl T).take i).filter (fun x => decide (x ∈ sl_kk T (sl_pl T) (sl_pl T).length))).length → ¬ x = nI m) →
      sk_W Γ m_M_packed 0 0 13 [(0, .ref 41), (1, .int x), (2, .int (nI (((sl_pl T).take i).filter (fun x => decide (x ∈ sl_kk T (sl_pl T) (sl_pl T).length))).length)), (3, .int (nI i))] [] sk_gg I' J 0 0 (sk_Ki K) := by
    intro d
    induction d with
    | zero =>
      intro i hi hno
      have hi : i = (sl_pl T).length := by omega
      subst hi
      rw [List.take_length] at hno ⊢
      refine s_M_packed_13 ⟨fun _ => ⟨_, rfl, rfl, ?_⟩, fun hcc => absurd ?_ hcc⟩
      · have e : sl_pa (sl_pk T) x = -1 := by
          unfold sl_pa
          by_cases hx : x < 0
          · rw [if_pos hx]
          · rw [if_neg hx]
            obtain ⟨m, hm31, rfl⟩ := zI_of hx
            have hle : (sl_pk T).length ≤ m := Nat.le_of_not_lt fun hlt => hno m hlt rfl
            rw [zI_cl hm31, List.getElem?_eq_none hle]
            rfl
        rw [e] at r; exact r
      · rw [b3]; exact (zI_le hpl31 hpl31).mpr (Nat.le_refl _)
    | succ d ih =>
      intro i hi hno
      have hil : i < (sl_pl T).length := by omega
      have hi31 : i < 2 ^ 31 := by omega
      have etk : ((sl_pl T).take (i + 1)).filter (fun x => decide (x ∈ sl_kk T (sl_pl T) (sl_pl T).length)) = ((sl_pl T).take i).filter (fun x => decide (x ∈ sl_kk T (sl_pl T) (sl_pl T).length)) ++ [(sl_pl T)[i]].filter (fun x => decide (x ∈ sl_kk T (sl_pl T) (sl_pl T).length)) := by
        rw [List.take_succ, List.getElem?_eq_getElem hil, List.filter_append]; rfl
      have hle : (((sl_pl T).take i).filter (fun x => decide (x ∈ sl_kk T (sl_pl T) (sl_pl T).length))).length ≤ i := Nat.le_trans (List.length_filter_le _ _) (by rw [List.length_take]; omega)
      have vp : vp_in (nI i) 64 := vp_nat (by omega) (by decide)
      refine s_M_packed_13 ?_
      rw [b3, zI_cl hi31, b8 i hil, sl_pre_lt b7 hil, show nI i + 1 = nI (i + 1) from (nI_succ i).symm]
      refine ⟨fun hcc => ?_, fun _ => ⟨vp, fun hg => ?_, fun hg => ⟨fun hne => ?_, fun he => ⟨vp, _, rfl, rfl, ?_⟩⟩⟩⟩
      · rw [zI_le hpl31 hi31] at hcc; omega
      · have hm : ¬ (sl_pl T)[i] ∈ sl_kk T (sl_pl T) (sl_pl T).length := fun hm => hg (by rw [if_pos hm])
        have e2 : [(sl_pl T)[i]].filter (fun x => decide (x ∈ sl_kk T (sl_pl T) (sl_pl T).length)) = [] := by simp [hm]
        rw [e2, List.append_nil] at etk
        have := ih (i + 1) (by omega) (by rw [etk]; exact hno)
        rw [etk] at this
        exact this
      · have hm : (sl_pl T)[i] ∈ sl_kk T (sl_pl T) (sl_pl T).length := Classical.byContradiction fun hm => by rw [if_neg hm] at hg; exact absurd hg (by decide)
        have e2 : [(sl_pl T)[i]].filter (fun x => decide (x ∈ sl_kk T (sl_pl T) (sl_pl T).length)) = [(sl_pl T)[i]] := by simp [hm]
        rw [e2] at etk
        have elen : (((sl_pl T).take (i + 1)).filter (fun x => decide (x ∈ sl_kk T (sl_pl T) (sl_pl T).length))).length = (((sl_pl T).take i).filter (fun x => decide (x ∈ sl_kk T (sl_pl T) (sl_pl T).length))).length + 1 := by rw [etk, List.length_append]; rfl
        have := ih (i + 1) (by omega) (fun m hm => ?_)
        · rw [elen] at this
          rw [zI_1, zI_add]; exact this
        · rw [elen] at hm
          by_cases hmm : m = (((sl_pl T).take i).filter (fun x => decide (x ∈ sl_kk T (sl_pl T) (sl_pl T).length))).length
          · rw [hmm]; exact fun e => hne e.symm
          · exact hno m (by omega)
      · have hm : (sl_pl T)[i] ∈ sl_kk T (sl_pl T) (sl_pl T).length := Classical.byContradiction fun hm => by rw [if_neg hm] at hg; exact absurd hg (by decide)
        have epk : sl_pk T = ((sl_pl T).take i).filter (fun x => decide (x ∈ sl_kk T (sl_pl T) (sl_pl T).length)) ++ (sl_pl T)[i] :: ((sl_pl T).drop (i + 1)).filter (fun x => decide (x ∈ sl_kk T (sl_pl T) (sl_pl T).length)) := by
          exact sl_fil hil (decide_eq_true hm)
        have e : sl_pa (sl_pk T) x = nI (sl_pl T)[i] := by
          rw [← he]
          unfold sl_pa
          rw [if_neg (zI_nn (by omega)), zI_cl (by omega), epk, List.getElem?_append_right (Nat.le_refl _)]
          simp [sl_oi]
        rw [e] at r; exact r
  exact loop (sl_pl T).length 0 (by omega) (fun m hm => absurd hm (Nat.not_lt_zero _))
theorem t_M_log {x y : Int32} {K : Int32 → sk_I → sk_J → Prop} (hw : sl_wf T) (hm : sl_ms T lg I) (hl : lg.length ≤ 16)
    (h1 : sl_nv T x → K 0 (sk_pi I 41 0 1) J) (h2 : ¬ sl_nv T x → (y < 0 ∨ 4095 < y) → K 0 (sk_pi I 41 0 2) J) (h3 : ¬ sl_nv T x → ¬ (y < 0 ∨ 4095 < y) → lg.length = 16 → K 0 (sk_pi I 41 0 3) J)
    (h0 : ¬ sl_nv T x → ¬ (y < 0 ∨ 4095 < y) → ∀ v r, x = nI v → y = nI r → v < 2 ^ cS T → r < 4096 → lg.length < 16 → ∀ I' : sk_I, sl_ms T (lg ++ [(v, r)]) I' → I' 41 0 = 0 → (∀ q, q < 41 ∨ 60 < q → I' q = I q) → K (nI (lg.length + 1)) I' J) : sk_S Γ m_M_log 0 0 [.ref 41, .int x, .int y] sk_gg I J (sk_Ki K) := by
  refine sk_spec (by decide) rfl (by exact Nat.le_of_ble_eq_true rfl) ?_
  have hl31 : lg.length < 2 ^ 31 := sl_lt31 (m := 16) hl (by decide)
  obtain ⟨hb, ho, hk, hp, hg⟩ := id hm
  have bad : ∀ u : Int32, ¬ u ≤ 0 → K 0 (sk_pi I 41 0 u) J → sk_W Γ m_M_log 0 0 46 [(0, .ref 41), (1, .int x), (2, .int y)] [.int u, .ref 41] sk_gg I J 0 0 (sk_Ki K) :=
    fun u hu hk => s_M_log_46 ⟨fun hn => absurd hn hu, fun _ => ⟨_, rfl, rfl, hk⟩⟩
  refine s_M_log_0 ⟨fun hx => bad 1 (by decide) (h1 (Or.inl hx)), fun hx0 => t_M_vectors hw hb (s_M_log_10 ?_)⟩
  refine ⟨fun hx1 => ?_, fun hx1 => bad 1 (by decide) (h1 (Or.inr (Int32.not_lt.mp hx1)))⟩
  have hx : ¬ sl_nv T x := by
    rintro (h | h)
    · exact hx0 h
    · exact Int32.not_lt.mpr h hx1
  refine ⟨fun y0 => bad 2 (by decide) (h2 hx (Or.inl y0)), fun y0 => ⟨fun y1 => ?_, fun y1 => bad 2 (by decide) (h2 hx (Or.inr (Int32.not_le.mp y1)))⟩⟩
  have hy : ¬ (y < 0 ∨ 4095 < y) := by
    rintro (h | h)
    · exact y0 h
    · exact Int32.not_lt.mpr y1 h
  rw [hg.1, show (16 : Int32) = nI 16 by decide +kernel, zI_inj hl31 (by decide)]
  refine ⟨fun hn => ?_, fun he => bad 3 (by decide) (h3 hx hy he)⟩
  obtain ⟨v, hv, rfl⟩ := sl_nv_of hw hx
  obtain ⟨r, hr31, rfl⟩ := zI_of y0
  have hr : r < 4096 := by
    rw [show (4095 : Int32) = nI 4095 by decide +kernel, zI_le hr31 (by decide)] at y1
    omega
  have hlt : lg.length < 16 := by omega
  have vp : vp_in (nI lg.length) 16 := vp_nat hlt (by decide)
  refine s_M_log_46 ?_
  rw [hg.1, zI_cl hl31, show nI lg.length + 1 = nI (lg.length + 1) from (nI_succ _).symm]
  refine ⟨fun _ => ⟨vp, vp, _, rfl, rfl, h0 hx hy v r rfl rfl hv hr hlt _ ⟨?_, ?_, ?_, ?_, ?_, ?_⟩ ?_ (fun q hq => ?_)⟩, fun h => absurd (by decide) h⟩
  · exact sl_mb_frame hb (fun j hj => by rw [pi_j _ _ _ _ (by omega), pi_q _ _ _ _ (by decide), pi_q _ _ _ _ (by decide), pi_j _ _ _ _ (by omega)]) (fun q a b => by rw [pi_q _ _ _ _ (by omega), pi_q _ _ _ _ (by omega), pi_q _ _ _ _ (by omega), pi_q _ _ _ _ (by omega)])
  · exact sl_mo_frame ho (fun j hj => by rw [pi_j _ _ _ _ (by omega), pi_q _ _ _ _ (by decide), pi_q _ _ _ _ (by decide), pi_j _ _ _ _ (by omega)]) (fun q a b => by rw [pi_q _ _ _ _ (by omega), pi_q _ _ _ _ (by omega), pi_q _ _ _ _ (by omega), pi_q _ _ _ _ (by omega)])
  · unfold sl_mk sl_kt at hk ⊢
    rw [pi_j _ _ _ _ (by decide), pi_q _ _ _ _ (by decide), pi_q _ _ _ _ (by decide), pi_j _ _ _ _ (by decide)]
    rw [pi_q _ 41 _ _ (show (56 : Nat) ≠ 41 by decide), pi_q _ 41 _ _ (show (55 : Nat) ≠ 41 by decide), pi_q _ 60 _ _ (show (56 : Nat) ≠ 60 by decide), pi_q _ 60 _ _ (show (55 : Nat) ≠ 60 by decide), pi_q _ 59 _ _ (show (56 : Nat) ≠ 59 by decide), pi_q _ 59 _ _ (show (55 : Nat) ≠ 59 by decide), pi_q _ 41 _ _ (show (56 : Nat) ≠ 41 by decide), pi_q _ 41 _ _ (show (55 : Nat) ≠ 41 by decide)]
    exact hk
  · unfold sl_mp at hp ⊢
    have e : ∀ q, q ≠ 41 → q ≠ 59 → q ≠ 60 → sk_pi (sk_pi (sk_pi (sk_pi I 41 0 0) 59 lg.length (nI v)) 60 lg.length (nI r)) 41 26 (nI (lg.length + 1)) q = I q := fun q a b c => by rw [pi_q _ _ _ _ a, pi_q _ _ _ _ c, pi_q _ _ _ _ b, pi_q _ _ _ _ a]
    have e4 : ∀ j, j ≠ 0 → j ≠ 26 → sk_pi (sk_pi (sk_pi (sk_pi I 41 0 0) 59 lg.length (nI v)) 60 lg.length (nI r)) 41 26 (nI (lg.length + 1)) 41 j = I 41 j := fun j a b => by rw [pi_j _ _ _ _ b, pi_q _ _ _ _ (by decide), pi_q _ _ _ _ (by decide), pi_j _ _ _ _ a]
    rw [e4 22 (by decide) (by decide), e4 23 (by decide) (by decide), e 57 (by decide) (by decide) (by decide), e 58 (by decide) (by decide) (by decide)]
    exact hp
  · rw [pi_eq, List.length_append]; rfl
  · intro i z hz
    rw [pi_q _ 41 _ _ (show (59 : Nat) ≠ 41 by decide), pi_q _ 41 _ _ (show (60 : Nat) ≠ 41 by decide), pi_q _ 60 _ _ (show (59 : Nat) ≠ 60 by decide), pi_at, pi_at]
    by_cases hi : i < lg.length
    · rw [List.getElem?_append_left hi] at hz
      rw [if_neg (by omega), if_neg (by omega), pi_q _ _ _ _ (show (60 : Nat) ≠ 59 by decide), pi_q _ _ _ _ (show (59 : Nat) ≠ 41 by decide), pi_q _ _ _ _ (show (60 : Nat) ≠ 41 by decide)]
      exact hg.2 i z hz
    · by_cases hi2 : i = lg.length
      · subst hi2
        rw [List.getElem?_append_right (Nat.le_refl _)] at hz
        simp at hz
        subst hz
        rw [if_pos rfl, if_pos rfl]
        exact ⟨rfl, rfl⟩
      · have : (lg ++ [(v, r)])[i]? = none := List.getElem?_eq_none (by rw [List.length_append]; simp; omega)
        rw [this] at hz
        cases hz
  · rw [pi_j _ _ _ _ (by decide), pi_q _ _ _ _ (by decide), pi_q _ _ _ _ (by decide), pi_eq]
  · rw [pi_q _ _ _ _ (by omega), pi_q _ _ _ _ (by omega), pi_q _ _ _ _ (by omega), pi_q _ _ _ _ (by omega)]
theorem t_M_forget {K : Int32 → sk_I → sk_J → Prop} (hm : sl_ms T lg I)
    (h : ∀ I' : sk_I, sl_ms T [] I' → (∀ q, q < 41 ∨ 60 < q → I' q = I q) → K (nI lg.length) I' J) : sk_S Γ m_M_forget 0 0 [.ref 41] sk_gg I J (sk_Ki K) := by
  refine sk_spec (by decide) rfl (by exact Nat.le_of_ble_eq_true rfl) ?_
  obtain ⟨hb, ho, hk, hp, hg⟩ := sl_ms_code hm 0
  refine s_M_forget_0 ?_
  rw [hm.2.2.2.2.1]
  refine ⟨_, rfl, rfl, h _ ⟨?_, ?_, ?_, ?_, ?_, ?_⟩ (fun q hq => by rw [pi_q _ _ _ _ (by omega), pi_q _ _ _ _ (by omega)])⟩
  · exact sl_mb_frame hb (fun j hj => pi_j _ _ _ _ (by omega)) (fun q a b => pi_q _ _ _ _ (by omega))
  · exact sl_mo_frame ho (fun j hj => pi_j _ _ _ _ (by omega)) (fun q a b => pi_q _ _ _ _ (by omega))
  · unfold sl_mk sl_kt at hk ⊢
    rw [pi_j _ _ _ _ (by decide), pi_q _ 41 26 _ (show (56 : Nat) ≠ 41 by decide), pi_q _ 41 26 _ (show (55 : Nat) ≠ 41 by decide)]
    exact hk
  · unfold sl_mp at hp ⊢
    rw [pi_j _ 41 26 _ (show (22 : Nat) ≠ 26 by decide), pi_j _ 41 26 _ (show (23 : Nat) ≠ 26 by decide), pi_q _ 41 26 _ (show (57 : Nat) ≠ 41 by decide), pi_q _ 41 26 _ (show (58 : Nat) ≠ 41 by decide)]
    exact hp
  · rw [pi_eq]; rfl
  · intro i x hx; simp at hx
theorem t_M_gives {p : Nat} {K : Int32 → sk_I → sk_J → Prop} (hw : sl_wf T) (hm : sl_ms T lg I) (ht : sl_kt T I) (hl : lg.length ≤ 16) (hx : ∀ x ∈ lg, x.1 < 2 ^ cS T ∧ x.2 < 4096) (hp : p ≤ cF T)
    (h : K (if sl_ex T lg (sl_pf p) = true then 1 else 0) I J) : sk_S Γ m_M_gives 0 0 [.ref 41, .int (sl_fi (sl_pf p))] sk_gg I J (sk_Ki K) := by
  refine sk_spec (by decide) rfl (by exact Nat.le_of_ble_eq_true rfl) ?_
  have hF : cF T ≤ 208 := sl_F_le hw
  have hS := sl_S64 hw
  have hl31 : lg.length < 2 ^ 31 := sl_lt31 (m := 16) hl (by decide)
  obtain ⟨g1, g2⟩ := hm.2.2.2.2
  refine s_M_gives_0 ?_
  have loop : ∀ d i (c : Int32), i + d = lg.length → (c = 0 ∨ c = 1) → (¬ c = 0 → ∀ j, j < i → ∀ x, lg[j]? = some x → sl_rp T (sl_pf p) x.1 = x.2) → (c = 0 → ¬ sl_ex T lg (sl_pf p) = true) →
      sk_W Γ m_M_gives 0 0 4 [(0, .ref 41), (1, .int (sl_fi (sl_pf p))), (2, .int c), (3, .int (nI i))] [] sk_gg I J 0 0 (sk_Ki K) := by
    intro d
    induction d with
    | zero =>
      intro i c hi hc c1 c0
      have hi : i = lg.length := by omega
      subst hi
      refine s_M_gives_4 ⟨fun _ => ⟨hc, _, rfl, rfl, ?_⟩, fun hcc => absurd ?_ hcc⟩
      · rcases hc with hc | hc
        · rw [if_neg (c0 hc)] at h
          rw [hc]; exact h
        · have he : sl_ex T lg (sl_pf p) = true := List.all_eq_true.mpr fun x hx => by
            obtain ⟨j, hj⟩ := List.getElem?_of_mem hx
            exact decide_eq_true (c1 (by rw [hc]; decide) j (List.getElem?_eq_some_iff.mp hj).1 x hj)
          rw [if_pos he] at h
          rw [hc]; exact h
      · rw [g1]; exact (zI_le hl31 hl31).mpr (Nat.le_refl _)
    | succ d ih =>
      intro i c hi hc c1 c0
      have hil : i < lg.length := by omega
      have hi31 : i < 2 ^ 31 := by omega
      have hxs := List.getElem?_eq_getElem hil
      obtain ⟨b1, b2⟩ := hx _ (List.getElem_mem hil)
      obtain ⟨d1, d2⟩ := g2 i _ hxs
      have vp : vp_in (nI i) 16 := vp_nat (by omega) (by decide)
      have hv31 : lg[i].1 < 2 ^ 31 := sl_lt31 (m := 64) (by omega) (by decide)
      have s46 : sk_W Γ m_M_gives 0 0 46 [(0, .ref 41), (1, .int (sl_fi (sl_pf p))), (2, .int c), (3, .int (nI i))] [.int (nI (sl_rp T (sl_pf p) lg[i].1))] sk_gg I J 0 0 (sk_Ki K) := by
        refine s_M_gives_46 ?_
        rw [zI_cl hi31, d2, zI_inj (sl_lt31 (m := 4096) (Nat.le_of_lt (sl_rp4096 hw _ _)) (by decide)) (sl_lt31 (m := 4096) (by omega) (by decide)), show nI i + 1 = nI (i + 1) from (nI_succ i).symm]
        refine ⟨fun hz => ih (i + 1) 0 (by omega) (Or.inl rfl) (fun hn => absurd rfl hn) (fun _ => c0 hz), fun hz => ⟨vp, fun hne => ih (i + 1) 0 (by omega) (Or.inl rfl) (fun hn => absurd rfl hn) (fun _ he => ?_), fun he => ih (i + 1) 1 (by omega) (Or.inr rfl) (fun _ j hj x hjx => ?_) (fun hn => absurd hn (by decide))⟩⟩
        · exact hne (of_decide_eq_true (List.all_eq_true.mp he _ (List.getElem_mem hil)))
        · by_cases hji : j = i
          · subst hji
            rw [hxs] at hjx
            cases hjx
            exact he
          · exact c1 hz j (by omega) x hjx
      refine s_M_gives_4 ?_
      rw [zI_cl hi31, d1]
      refine ⟨fun hcc => ?_, fun _ => ⟨fun hpos => ⟨vp, ?_⟩, fun hneg => ⟨vp, vp_nat (by omega) (by decide), ?_⟩⟩⟩
      · rw [g1, zI_le hl31 hi31] at hcc; omega
      · cases p with
        | zero => exact absurd hpos (by decide)
        | succ q =>
          have e64 : 64 * sl_fi (sl_pf (q + 1)) + nI lg[i].1 = nI (64 * q + lg[i].1) := sl_64
          rw [e64, zI_cl (sl_lt31 (m := 13312) (by omega) (by decide)), (ht _ b1).2 q (by omega)]
          exact ⟨vp_nat (by omega) (by decide), s46⟩
      · rw [zI_cl hv31]
        cases p with
        | zero => rw [(ht _ b1).1]; exact s46
        | succ q => exact absurd (Int32.not_lt.mp (zI_nn (a := q) (sl_lt31 (m := 208) (by omega) (by decide)))) hneg
  exact loop lg.length 0 1 (by omega) (Or.inr rfl) (fun _ j hj => absurd hj (Nat.not_lt_zero _)) (fun hn => absurd hn (by decide))
def sl_xp (T : sl_ct) (lg : List (Nat × Nat)) (x : Int32) : Int32 := if x = -1 then (if sl_ex T lg none = true then 1 else 0) else sl_kth (fun f => sl_ex T lg (some f)) x (cF T) 0 0
theorem t_M_explains {x : Int32} {K : Int32 → sk_I → sk_J → Prop} (hw : sl_wf T) (hm : sl_ms T lg I) (hl : lg.length ≤ 16) (hx : ∀ x ∈ lg, x.1 < 2 ^ cS T ∧ x.2 < 4096)
    (h : ∀ I' : sk_I, sl_ms T lg I' → (∀ q, q < 41 ∨ 60 < q → I' q = I q) → K (sl_xp T lg x) I' J) : sk_S Γ m_M_explains 0 0 [.ref 41, .int x] sk_gg I J (sk_Ki K) := by
  refine sk_spec (by decide) rfl (by exact Nat.le_of_ble_eq_true rfl) ?_
  have hF : cF T ≤ 208 := sl_F_le hw
  have hF31 : cF T < 2 ^ 31 := sl_lt31 (m := 208) (by omega) (by decide)
  have hm0 := sl_ms_code hm 0
  refine s_M_explains_0 ?_
  refine t_M_learn hw hm0.1 hm0.2.1 hm0.2.2.1 (fun I' f g k t => ?_)
  have hm' := sl_ms_learn hm0 f g t
  have r := h I' hm' (fun q hq => by rw [f q (by omega) (by omega) (by omega) (by omega), sl_hq0 0 q hq])
  unfold sl_xp at r
  refine s_M_explains_9 ⟨fun hne => ?_, fun he => ?_⟩
  · rw [if_neg hne] at r
    have loop : ∀ d i n, i + d = cF T → K (sl_kth (fun f => sl_ex T lg (some f)) x d i n) I' J → sk_W Γ m_M_explains 0 0 32 [(0, .ref 41), (1, .int x), (2, .int (nI n)), (3, .int (nI i))] [] sk_gg I' J 0 0 (sk_Ki K) := by
      intro d
      induction d with
      | zero =>
        intro i n hi hk
        have hi : i = cF T := by omega
        subst hi
        refine s_M_explains_32 ?_
        rw [sl_mF hm'.2.1]
        exact ⟨fun _ => ⟨_, rfl, rfl, hk⟩, fun hcc => absurd ((zI_le hF31 hF31).mpr (Nat.le_refl _)) hcc⟩
      | succ d ih =>
        intro i n hi hk
        have hi31 : i < 2 ^ 31 := by omega
        simp only [sl_kth] at hk
        refine s_M_explains_32 ?_
        rw [sl_mF hm'.2.1]
        refine ⟨fun hcc => ?_, fun _ => ?_⟩
        · rw [zI_le hF31 hi31] at hcc; omega
        · refine t_M_gives (p := i + 1) hw hm' t hl hx (by omega) ?_
          refine s_M_explains_47 ?_
          rw [show nI i + 1 = nI (i + 1) from (nI_succ i).symm, show nI n + 1 = nI (n + 1) from (nI_succ n).symm]
          by_cases he : sl_ex T lg (some i) = true
          · rw [if_pos he] at hk
            rw [show sl_pf (i + 1) = some i from rfl, if_pos he]
            refine ⟨fun h => absurd h (by decide), fun _ => ⟨fun hn => ih (i + 1) (n + 1) (by omega) ?_, fun hy => ⟨_, rfl, rfl, ?_⟩⟩⟩
            · rw [if_neg hn] at hk; exact hk
            · rw [if_pos hy] at hk; exact hk
          · rw [if_neg he] at hk
            rw [show sl_pf (i + 1) = some i from rfl, if_neg he]
            exact ⟨fun _ => ih (i + 1) n (by omega) hk, fun h => absurd rfl h⟩
    exact loop (cF T) 0 0 (by omega) r
  · rw [if_pos he] at r
    refine t_M_gives (p := 0) hw hm' t hl hx (Nat.zero_le _) ?_
    refine s_M_explains_19 ?_
    by_cases hex : sl_ex T lg none = true
    · rw [if_pos hex] at r
      rw [show sl_pf 0 = none from rfl, if_pos hex]
      exact ⟨fun h => absurd h (by decide), fun _ => ⟨_, rfl, rfl, r⟩⟩
    · rw [if_neg hex] at r
      rw [show sl_pf 0 = none from rfl, if_neg hex]
      exact ⟨fun _ => ⟨_, rfl, rfl, r⟩, fun h => absurd rfl h⟩
end MT
