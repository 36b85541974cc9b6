/-! the model: its packed set, cubes, what explains -/
/-- is a fault shown by those that are kept, but one -/
def sl_co (T : sl_ct) (f b : Nat) (xs ks : List Nat) (i : Nat) : Bool := decide (i + 1 ≠ b) && (decide (xs.getD i 0 ∈ ks) && sl_sh T f (xs.getD i 0))
def sl_cs (T : sl_ct) (f b : Nat) (xs ks : List Nat) (n : Nat) : Bool := (List.range n).any (sl_co T f b xs ks)
theorem sl_cs_succ (T : sl_ct) (f b : Nat) (xs ks : List Nat) (n : Nat) : sl_cs T f b xs ks (n + 1) = (sl_cs T f b xs ks n || sl_co T f b xs ks n) := by
  unfold sl_cs
  rw [List.range_succ, List.any_append]
  simp
theorem sl_getD {xs : List Nat} {i : Nat} (hi : i < xs.length) : xs.getD i 0 = xs[i] := by
  rw [List.getD_eq_getElem?_getD, List.getElem?_eq_getElem hi]; rfl
theorem sl_cs_any {T : sl_ct} {f : Nat} {xs : List Nat} : sl_cs T f 0 xs xs xs.length = xs.any (sl_sh T f) := by
  rw [Bool.eq_iff_iff]
  unfold sl_cs
  rw [List.any_eq_true, List.any_eq_true]
  constructor
  · rintro ⟨i, hi, hc⟩
    have hi : i < xs.length := List.mem_range.mp hi
    unfold sl_co at hc
    rw [sl_getD hi] at hc
    simp at hc
    exact ⟨xs[i], List.getElem_mem hi, hc⟩
  · rintro ⟨x, hx, hs⟩
    obtain ⟨i, hi, rfl⟩ := List.getElem_of_mem hx
    refine ⟨i, List.mem_range.mpr hi, ?_⟩
    unfold sl_co
    rw [sl_getD hi]
    simp [hs]
theorem sl_nd_inj {xs : List Nat} (hn : xs.Nodup) {i j : Nat} (hi : i < xs.length) (hj : j < xs.length) (h : xs[i] = xs[j]) : i = j := by
  rcases Nat.lt_trichotomy i j with hij | hij | hij
  · exact absurd h ((List.pairwise_iff_getElem.mp hn) i j hi hj hij)
  · exact hij
  · exact absurd h.symm ((List.pairwise_iff_getElem.mp hn) j i hj hi hij)
theorem sl_cs_but {T : sl_ct} {f i : Nat} {xs ks : List Nat} (hn : xs.Nodup) (hk : ∀ x ∈ ks, x ∈ xs) (hi : i < xs.length) : sl_cs T f (i + 1) xs ks xs.length = (ks.filter (fun x => decide (x ≠ xs.getD i 0))).any (sl_sh T f) := by
  rw [Bool.eq_iff_iff]
  unfold sl_cs
  rw [List.any_eq_true, List.any_eq_true]
  constructor
  · rintro ⟨j, hj, hc⟩
    have hj : j < xs.length := List.mem_range.mp hj
    unfold sl_co at hc
    rw [sl_getD hj] at hc
    simp at hc
    refine ⟨xs[j], List.mem_filter.mpr ⟨hc.2.1, ?_⟩, hc.2.2⟩
    rw [sl_getD hi]
    exact decide_eq_true fun e => hc.1 (sl_nd_inj hn hj hi e)
  · rintro ⟨x, hx, hs⟩
    obtain ⟨h1, h2⟩ := List.mem_filter.mp hx
    obtain ⟨j, hj, rfl⟩ := List.getElem_of_mem (hk x h1)
    refine ⟨j, List.mem_range.mpr hj, ?_⟩
    unfold sl_co
    rw [sl_getD hj]
    have h3 := of_decide_eq_true h2
    rw [sl_getD hi] at h3
    have : j ≠ i := fun e => by subst e; exact h3 rfl
    simp [hs, h1, this]
theorem sl_kk_mem {T : sl_ct} {xs : List Nat} (hn : xs.Nodup) : ∀ s j, (hj : j < xs.length) → j + s < xs.length → xs[j] ∈ sl_kk T xs s
  | 0, j, hj, _ => List.getElem_mem hj
  | s + 1, j, hj, h => by
    have ih := sl_kk_mem (T := T) hn s j hj (by omega)
    simp only [sl_kk]
    split
    · refine List.mem_filter.mpr ⟨ih, ?_⟩
      have hi : xs.length - 1 - s < xs.length := by omega
      rw [sl_getD hi]
      exact decide_eq_true fun e => by have := sl_nd_inj hn hj hi e; omega
    · exact ih
/-- the k-th -/
def sl_kth (p : Nat → Bool) (k : Int32) : Nat → Nat → Nat → Int32
  | 0, _, _ => -1
  | d + 1, i, n => if p i = true then (if nI n = k then nI i else sl_kth p k d (i + 1) (n + 1)) else sl_kth p k d (i + 1) n
def sl_mp (T : sl_ct) (I : sk_I) : Prop := ¬ I 41 22 = 0 → I 41 23 = nI (sl_pl T).length ∧ sl_pre (I 57) (sl_pl T) ∧ ∀ i, (hi : i < (sl_pl T).length) → I 58 i = if (sl_pl T)[i] ∈ sl_kk T (sl_pl T) (sl_pl T).length then 0 else 1
section MP
variable {Γ : sk_T} {I : sk_I} {J : sk_J} {T : sl_ct}
theorem t_M_covered {f b : Nat} {xs ks : List Nat} {K : Int32 → sk_I → sk_J → Prop} (hw : sl_wf T) (ht : sl_kt T I) (hf : f < cF T) (hb : b ≤ xs.length) (hl : xs.length ≤ 64) (hx : ∀ x ∈ xs, x < 2 ^ cS T) (h3 : I 41 23 = nI xs.length) (h7 : sl_pre (I 57) xs) (h8 : ∀ i, (hi : i < xs.length) → I 58 i = if xs[i] ∈ ks then 0 else 1)
    (h : K (if sl_cs T f b xs ks xs.length = true then 1 else 0) I J) : sk_S Γ m_M_covered 0 0 [.ref 41, .int (nI f), .int (sl_fi (sl_pf b))] sk_gg I J (sk_Ki K) := by
  refine sk_spec (by decide) rfl (by exact Nat.le_of_ble_eq_true rfl) ?_
  have hF : cF T ≤ 208 := sl_F_le hw
  have hS := sl_S64 hw
  have hl31 : xs.length < 2 ^ 31 := sl_lt31 (m := 64) hl (by decide)
  refine s_M_covered_0 ?_
  have hbi : ∀ i, i < 64 → (nI i = sl_fi (sl_pf b) ↔ i + 1 = b) := by
    intro i hi
    have hi31 : i < 2 ^ 31 := sl_lt31 (m := 64) (by omega) (by decide)
    cases b with
    | zero =>
      show nI i = -1 ↔ i + 1 = 0
      exact ⟨fun e => absurd e (zI_m1 hi31), fun e => by omega⟩
    | succ c =>
      show nI i = nI c ↔ i + 1 = c + 1
      rw [zI_inj hi31 (by omega)]; omega
  have loop : ∀ d i, i + d = xs.length → sk_W Γ m_M_covered 0 0 5 [(0, .ref 41), (1, .int (nI f)), (2, .int (sl_fi (sl_pf b))), (3, .int (if sl_cs T f b xs ks i = true then 1 else 0)), (4, .int (nI i))] [] sk_gg I J 0 0 (sk_Ki K) := by
    intro d
    induction d with
    | zero =>
      intro i hi
      have hi : i = xs.length := by omega
      subst hi
      refine s_M_covered_5 ⟨fun _ => ⟨?_, _, rfl, rfl, h⟩, fun hcc => absurd ?_ hcc⟩
      · split
        · exact Or.inr rfl
        · exact Or.inl rfl
      · rw [h3]; exact (zI_le hl31 hl31).mpr (Nat.le_refl _)
    | succ d ih =>
      intro i hi
      have hil : i < xs.length := by omega
      have hi31 : i < 2 ^ 31 := by omega
      have hxi := hx _ (List.getElem_mem hil)
      have hx31 : xs[i] < 2 ^ 31 := sl_lt31 (m := 64) (by omega) (by decide)
      have hnx := ih (i + 1) (by omega)
      rw [sl_cs_succ] at hnx
      have eco : sl_co T f b xs ks i = (decide (i + 1 ≠ b) && (decide (xs[i] ∈ ks) && sl_sh T f xs[i])) := by unfold sl_co; rw [sl_getD hil]
      have to0 : sl_cs T f b xs ks i = false → sl_co T f b xs ks i = false → sk_W Γ m_M_covered 0 0 5 [(0, .ref 41), (1, .int (nI f)), (2, .int (sl_fi (sl_pf b))), (3, .int 0), (4, .int (nI (i + 1)))] [] sk_gg I J 0 0 (sk_Ki K) := by
        intro a c
        rw [a, c] at hnx; exact hnx
      have to1 : sl_cs T f b xs ks i = true ∨ sl_co T f b xs ks i = true → sk_W Γ m_M_covered 0 0 5 [(0, .ref 41), (1, .int (nI f)), (2, .int (sl_fi (sl_pf b))), (3, .int 1), (4, .int (nI (i + 1)))] [] sk_gg I J 0 0 (sk_Ki K) := by
        intro a
        rw [if_pos (by simpa using a)] at hnx; exact hnx
      refine s_M_covered_5 ?_
      rw [h3, zI_cl hi31, h8 i hil, sl_pre_lt h7 hil, sl_64, zI_cl (sl_lt31 (m := 13312) (by omega) (by decide)), zI_cl hx31, sl_kt_ne hw ht hf hxi, hbi i (by omega), show nI i + 1 = nI (i + 1) from (nI_succ i).symm]
      have vpi : vp_in (nI i) 64 := vp_nat (by omega) (by decide)
      have vpx : vp_in (nI xs[i]) 64 := vp_nat (by omega) (by decide)
      have vpf : vp_in (nI (64 * f + xs[i])) 13312 := vp_nat (by omega) (by decide)
      refine ⟨fun hcc => ?_, fun _ => ⟨fun h1 => ?_, fun h0 => ?_⟩⟩
      · rw [zI_le hl31 hi31] at hcc; omega
      · refine to1 (Or.inl ?_)
        cases hcs : sl_cs T f b xs ks i with
        | true => rfl
        | false => rw [hcs] at h1; exact absurd rfl h1
      · have hcs : sl_cs T f b xs ks i = false := by
          cases hcs : sl_cs T f b xs ks i with
          | false => rfl
          | true => rw [hcs] at h0; exact absurd h0 (by decide)
        refine ⟨fun hbe => to0 hcs ?_, fun hbn => ⟨vpi, fun hg => to0 hcs ?_, fun hg => ⟨vpi, vpf, vpi, vpx, fun hs => to0 hcs ?_, fun hs => to1 (Or.inr ?_)⟩⟩⟩
        · rw [eco]; simp [hbe]
        · rw [eco]
          have : ¬ xs[i] ∈ ks := fun hm => hg (by rw [if_pos hm])
          simp [this]
        · rw [eco]
          have : sl_sh T f xs[i] = false := by simpa using hs
          rw [this]; simp
        · rw [eco]
          have hm : xs[i] ∈ ks := Classical.byContradiction fun hm => by rw [if_neg hm] at hg; exact absurd hg (by decide)
          have hs2 := Classical.byContradiction hs
          simp [hm, hs2, hbn]
  exact loop xs.length 0 (by omega)
theorem t_M_pack {K : sk_I → sk_J → Prop} (hw : sl_wf T) (hb : sl_mb T I) (ho : sl_mo T I) (hk : sl_mk T I) (hp : sl_mp T I)
    (h : ∀ I' : sk_I, (∀ q, q ≠ 41 → q ≠ 53 → q ≠ 55 → q ≠ 56 → q ≠ 57 → q ≠ 58 → I' q = I q) → (∀ j, j ≠ 19 → j ≠ 22 → j ≠ 23 → I' 41 j = I 41 j) → sl_mk T I' → ¬ I' 41 22 = 0 → sl_mp T I' → K I' J) : sk_S Γ m_M_pack 0 0 [.ref 41] sk_gg I J (sk_Kv K) := by
  refine sk_spec (by decide) rfl (by exact Nat.le_of_ble_eq_true rfl) ?_
  have hF : cF T ≤ 208 := sl_F_le hw
  have hF31 : cF T < 2 ^ 31 := sl_lt31 (m := 208) (by omega) (by decide)
  have hS := sl_S64 hw
  refine s_M_pack_0 ⟨fun _ => ?_, fun hn => ⟨rfl, rfl, h I (fun _ _ _ _ _ _ _ => rfl) (fun _ _ _ _ => rfl) hk hn hp⟩⟩
  refine t_M_learn hw (sl_mb_frame hb (fun j hj => pi_j _ _ _ _ (by omega)) (fun q a b => pi_q _ _ _ _ (by omega))) (sl_mo_frame ho (fun j hj => pi_j _ _ _ _ (by omega)) (fun q a b => pi_q _ _ _ _ (by omega))) ?_ (fun I0 f0 g0 k0 t0 => ?_)
  · intro hn
    rw [pi_j _ _ _ _ (by decide)] at hn
    have := hk hn
    unfold sl_kt at this ⊢
    rw [pi_q _ _ _ _ (by decide), pi_q _ _ _ _ (by decide)]; exact this
  let F : sk_I → Prop := fun I1 => (∀ q, q ≠ 41 → q ≠ 53 → q ≠ 55 → q ≠ 56 → q ≠ 57 → q ≠ 58 → I1 q = I q) ∧ (∀ j, j ≠ 19 → j ≠ 22 → j ≠ 23 → I1 41 j = I 41 j) ∧ ¬ I1 41 19 = 0 ∧ I1 41 22 = 1 ∧ sl_kt T I1
  have gB : ∀ I1, F I1 → sl_mb T I1 := fun I1 f => sl_mb_frame hb (fun j hj => f.2.1 j (by omega) (by omega) (by omega)) (fun q a b => f.1 q (by omega) (by omega) (by omega) (by omega) (by omega) (by omega))
  have gO : ∀ I1, F I1 → sl_mo T I1 := fun I1 f => sl_mo_frame ho (fun j hj => f.2.1 j (by omega) (by omega) (by omega)) (fun q a b => f.1 q (by omega) (by omega) (by omega) (by omega) (by omega) (by omega))
  have hF1 : ∀ (I1 : sk_I) (q j : Nat) (x : Int32), F I1 → (q = 57 ∨ q = 58 ∨ (q = 41 ∧ j = 23)) → F (sk_pi I1 q j x) := by
    intro I1 q j x ⟨a1, a2, a3, a4, a5⟩ hq
    have g : ∀ j', j' ≠ 23 → sk_pi I1 q j x 41 j' = I1 41 j' := by
      intro j' hj'
      by_cases hq4 : q = 41
      · subst hq4; exact pi_j _ _ _ _ (by omega)
      · rw [pi_q _ _ _ _ (fun e => hq4 e.symm)]
    refine ⟨fun q' x1 x2 x3 x4 x5 x6 => by rw [pi_q _ _ _ _ (by omega)]; exact a1 q' x1 x2 x3 x4 x5 x6, fun j' x1 x2 x3 => by rw [g j' x3]; exact a2 j' x1 x2 x3, by rw [g 19 (by decide)]; exact a3, by rw [g 22 (by decide)]; exact a4, ?_⟩
    unfold sl_kt at a5 ⊢
    rw [pi_q _ _ _ _ (by omega), pi_q _ _ _ _ (by omega)]; exact a5
  have F0 : F I0 := by
    refine ⟨fun q x1 x2 x3 x4 _ _ => by rw [f0 q x1 x2 x3 x4, pi_q _ _ _ _ x1], fun j x1 x2 _ => by rw [g0 j x1, pi_j _ _ _ _ x2], k0, by rw [g0 22 (by decide), pi_eq], t0⟩
  -- the second run
  have hpl : (sl_pl T).length ≤ 64 := sl_ga_len hw _
  have hnd : (sl_pl T).Nodup := sl_ga_nd _
  have hlt : ∀ x ∈ sl_pl T, x < 2 ^ cS T := sl_ga_lt _
  have second : ∀ r s (I1 : sk_I), s + r = (sl_pl T).length → F I1 → I1 41 23 = nI (sl_pl T).length → sl_pre (I1 57) (sl_pl T) → (∀ i, (hi : i < (sl_pl T).length) → I1 58 i = if (sl_pl T)[i] ∈ sl_kk T (sl_pl T) s then 0 else 1) →
      sk_W Γ m_M_pack 0 0 96 [(0, .ref 41), (1, .int (sl_fi (sl_pf r)))] [] sk_gg I1 J 0 0 (sk_Kv K) := by
    intro r
    induction r with
    | zero =>
      intro s I1 hs f b3 b7 b8
      have hs : s = (sl_pl T).length := by omega
      subst hs
      exact s_M_pack_96 ⟨fun _ => ⟨rfl, rfl, h I1 f.1 f.2.1 (fun _ => f.2.2.2.2) (by rw [f.2.2.2.1]; decide) (fun _ => ⟨b3, b7, b8⟩)⟩, fun hn => absurd (by decide : (-1 : Int32) < 0) hn⟩
    | succ i ih =>
      intro s I1 hs f b3 b7 b8
      have hil : i < (sl_pl T).length := by omega
      have hi31 : i < 2 ^ 31 := sl_lt31 (m := 64) (by omega) (by decide)
      have ei : (sl_pl T).length - 1 - s = i := by omega
      refine s_M_pack_96 ⟨fun hn => absurd hn (zI_nn hi31), fun _ => ?_⟩
      have hcsb : ∀ g, sl_cs T g (i + 1) (sl_pl T) (sl_kk T (sl_pl T) s) (sl_pl T).length = ((sl_kk T (sl_pl T) s).filter (fun x => decide (x ≠ (sl_pl T).getD ((sl_pl T).length - 1 - s) 0))).any (sl_sh T g) := by
        intro g
        rw [ei]
        exact sl_cs_but hnd (sl_kk_sub s) hil
      have inner : ∀ e g (c : Int32), g + e = cF T → (c = 0 ∨ c = 1) → (c = 0 → ¬ sl_cv T ((sl_kk T (sl_pl T) s).filter (fun x => decide (x ≠ (sl_pl T).getD ((sl_pl T).length - 1 - s) 0))) = true) →
          (¬ c = 0 → ∀ g', g' < g → (sl_ls T g').isSome = true → ((sl_kk T (sl_pl T) s).filter (fun x => decide (x ≠ (sl_pl T).getD ((sl_pl T).length - 1 - s) 0))).any (sl_sh T g') = true) →
          sk_W Γ m_M_pack 0 0 104 [(0, .ref 41), (1, .int (nI i)), (2, .int c), (3, .int (nI g))] [] sk_gg I1 J 0 0 (sk_Kv K) := by
        intro e
        induction e with
        | zero =>
          intro g c hg hc c0 c1
          have hg : g = cF T := by omega
          subst hg
          refine s_M_pack_104 ?_
          rw [sl_mF (gO I1 f)]
          refine ⟨fun _ => ⟨vp_nat (by omega) (by decide), hc, ?_⟩, fun hcc => absurd ((zI_le hF31 hF31).mpr (Nat.le_refl _)) hcc⟩
          rw [zI_cl hi31, sl_fi_pred]
          refine ih (s + 1) _ (by omega) (hF1 _ _ _ _ f (by simp)) ?_ ?_ (fun j hj => ?_)
          · rw [pi_q _ _ _ _ (by decide)]; exact b3
          · rw [pi_q _ _ _ _ (by decide)]; exact b7
          · rw [pi_at]
            by_cases hz : c = 0
            · have ekk : sl_kk T (sl_pl T) (s + 1) = sl_kk T (sl_pl T) s := by simp only [sl_kk]; rw [if_neg (c0 hz)]
              rw [ekk]
              by_cases hji : j = i
              · subst hji
                rw [if_pos rfl, if_pos (sl_kk_mem hnd s j hj (by omega)), hz]
              · rw [if_neg hji]; exact b8 j hj
            · have hcv : sl_cv T ((sl_kk T (sl_pl T) s).filter (fun x => decide (x ≠ (sl_pl T).getD ((sl_pl T).length - 1 - s) 0))) = true := decide_eq_true (c1 hz)
              have ekk : sl_kk T (sl_pl T) (s + 1) = (sl_kk T (sl_pl T) s).filter (fun x => decide (x ≠ (sl_pl T).getD ((sl_pl T).length - 1 - s) 0)) := by simp only [sl_kk]; rw [if_pos hcv]
              rw [ekk, ei, sl_getD hil]
              by_cases hji : j = i
              · subst hji
                rw [if_pos rfl, if_neg (by simp [List.mem_filter])]
                rcases hc with hc | hc
                · exact absurd hc hz
                · exact hc
              · rw [if_neg hji, b8 j hj]
                have hne : ¬ (sl_pl T)[j] = (sl_pl T)[i] := fun e => hji (sl_nd_inj hnd hj hil e)
                simp [List.mem_filter, hne]
        | succ e ihe =>
          intro g c hg hc c0 c1
          have hgF : g < cF T := by omega
          have hg31 : g < 2 ^ 31 := by omega
          refine s_M_pack_104 ?_
          rw [sl_mF (gO I1 f), show nI g + 1 = nI (g + 1) from (nI_succ g).symm]
          refine ⟨fun hcc => ?_, fun _ => ⟨fun hz => ihe (g + 1) 0 (by omega) (Or.inl rfl) (fun _ => c0 hz) (fun hn => absurd rfl hn), fun hz => ?_⟩⟩
          · rw [zI_le hF31 hg31] at hcc; omega
          · refine t_M_leastOf hw (gB I1 f) f.2.2.2.2 hgF ?_
            refine s_M_pack_123 ?_
            rw [show nI g + 1 = nI (g + 1) from (nI_succ g).symm]
            cases hl : sl_ls T g with
            | none =>
              refine ⟨fun _ => ihe (g + 1) 1 (by omega) (Or.inr rfl) (fun hn => absurd hn (by decide)) (fun _ g' hg' hs' => ?_), fun hn => absurd (by decide : (-1 : Int32) < 0) hn⟩
              by_cases hgg : g' = g
              · subst hgg; rw [hl] at hs'; cases hs'
              · exact c1 hz g' (by omega) hs'
            | some v =>
              have hv := (sl_ls_lt hl).1
              refine ⟨fun hn => absurd hn (zI_nn (a := v) (sl_lt31 (m := 64) (by omega) (by decide))), fun _ => ?_⟩
              refine t_M_covered (b := i + 1) hw f.2.2.2.2 hgF (by omega) hpl hlt b3 b7 b8 ?_
              rw [hcsb g]
              refine s_M_pack_132 ?_
              rw [show nI g + 1 = nI (g + 1) from (nI_succ g).symm]
              by_cases ha : ((sl_kk T (sl_pl T) s).filter (fun x => decide (x ≠ (sl_pl T).getD ((sl_pl T).length - 1 - s) 0))).any (sl_sh T g) = true
              · rw [if_pos ha]
                refine ⟨fun hn => absurd hn (by decide), fun _ => ihe (g + 1) 1 (by omega) (Or.inr rfl) (fun hn => absurd hn (by decide)) (fun _ g' hg' hs' => ?_)⟩
                by_cases hgg : g' = g
                · subst hgg; exact ha
                · exact c1 hz g' (by omega) hs'
              · rw [if_neg ha]
                refine ⟨fun _ => ihe (g + 1) 0 (by omega) (Or.inl rfl) (fun _ hcv => ha (of_decide_eq_true hcv g hgF (by rw [hl]; rfl))) (fun hn => absurd rfl hn), fun hn => absurd rfl hn⟩
      exact inner (cF T) 0 1 (by omega) (Or.inr rfl) (fun hn => absurd hn (by decide)) (fun _ g' hg' => absurd hg' (Nat.not_lt_zero _))
  -- the first run
  have first : ∀ d g (I1 : sk_I), g + d = cF T → F I1 → I1 41 23 = nI (sl_ga T g).length → sl_pre (I1 57) (sl_ga T g) → (∀ i, i < (sl_ga T g).length → I1 58 i = 0) →
      sk_W Γ m_M_pack 0 0 24 [(0, .ref 41), (1, .int (nI g))] [] sk_gg I1 J 0 0 (sk_Kv K) := by
    intro d
    induction d with
    | zero =>
      intro g I1 hg f b3 b7 b8
      have hg : g = cF T := by omega
      subst hg
      refine s_M_pack_24 ?_
      rw [sl_mF (gO I1 f), b3, sl_fi_pred']
      refine ⟨fun _ => second (sl_pl T).length 0 I1 (by omega) f b3 b7 (fun i hi => ?_), fun hcc => absurd ((zI_le hF31 hF31).mpr (Nat.le_refl _)) hcc⟩
      rw [b8 i hi]
      exact (if_pos (List.getElem_mem hi)).symm
    | succ d ih =>
      intro g I1 hg f b3 b7 b8
      have hgF : g < cF T := by omega
      have hg31 : g < 2 ^ 31 := by omega
      have eS : nI g + 1 = nI (g + 1) := (nI_succ g).symm
      refine s_M_pack_24 ?_
      rw [sl_mF (gO I1 f)]
      refine ⟨fun hcc => ?_, fun _ => ?_⟩
      · rw [zI_le hF31 hg31] at hcc; omega
      · refine t_M_leastOf hw (gB I1 f) f.2.2.2.2 hgF ?_
        refine s_M_pack_39 ?_
        rw [eS]
        cases hl : sl_ls T g with
        | none =>
          have eg : sl_ga T (g + 1) = sl_ga T g := by simp only [sl_ga]; rw [hl]
          exact ⟨fun _ => ih (g + 1) I1 (by omega) f (by rw [eg]; exact b3) (by rw [eg]; exact b7) (by rw [eg]; exact b8), fun hn => absurd (by decide : (-1 : Int32) < 0) hn⟩
        | some v =>
          have hv := (sl_ls_lt hl).1
          refine ⟨fun hn => absurd hn (zI_nn (a := v) (sl_lt31 (m := 64) (by omega) (by decide))), fun _ => ?_⟩
          refine t_M_covered (b := 0) (xs := sl_ga T g) (ks := sl_ga T g) hw f.2.2.2.2 hgF (Nat.zero_le _) (sl_ga_len hw g) (sl_ga_lt g) b3 b7 (fun i hi => by rw [b8 i hi, if_pos (List.getElem_mem hi)]) ?_
          rw [sl_cs_any]
          refine s_M_pack_50 ?_
          rw [eS]
          by_cases ha : (sl_ga T g).any (sl_sh T g) = true
          · have eg : sl_ga T (g + 1) = sl_ga T g := by simp only [sl_ga]; rw [hl]; simp only [if_pos ha]
            rw [if_pos ha]
            exact ⟨fun _ => ih (g + 1) I1 (by omega) f (by rw [eg]; exact b3) (by rw [eg]; exact b7) (by rw [eg]; exact b8), fun hn => absurd hn (by decide)⟩
          · have eg : sl_ga T (g + 1) = sl_ga T g ++ [v] := by simp only [sl_ga]; rw [hl]; simp only [if_neg ha]
            have hlen := sl_ga_len hw (g + 1)
            rw [eg, List.length_append] at hlen
            have hlen2 : (sl_ga T g).length < 64 := by simp at hlen; omega
            have vp1 : vp_in (nI (sl_ga T g).length) 64 := vp_nat hlen2 (by decide)
            rw [if_neg ha, b3, zI_cl (sl_lt31 (m := 64) (by omega) (by decide)), show nI (sl_ga T g).length + 1 = nI ((sl_ga T g).length + 1) from (nI_succ _).symm]
            refine ⟨fun hn => absurd rfl hn, fun _ => ⟨vp1, vp1, ih (g + 1) _ (by omega) (hF1 _ _ _ _ (hF1 _ _ _ _ (hF1 _ _ _ _ f (by simp)) (by simp)) (by simp)) ?_ ?_ (fun i hi => ?_)⟩⟩
            · rw [pi_eq, eg, List.length_append]; rfl
            · rw [pi_q _ _ _ _ (by decide), pi_q _ _ _ _ (by decide), eg]
              exact sl_pre_push b7 (fun j hj => pi_j _ _ _ _ (by omega)) (pi_eq _ _ _ _)
            · rw [eg, List.length_append] at hi
              have hi : i < (sl_ga T g).length + 1 := hi
              rw [pi_q _ _ _ _ (by decide), pi_at]
              by_cases hie : i = (sl_ga T g).length
              · rw [if_pos hie]
              · rw [if_neg hie, pi_q _ _ _ _ (by decide)]; exact b8 i (by omega)
  refine s_M_pack_17 ?_
  exact first (cF T) 0 _ (by omega) (hF1 _ _ _ _ F0 (by simp)) (by rw [pi_eq]; rfl) (sl_pre_nil _) (fun i hi => absurd hi (Nat.not_lt_zero _))
end MP
