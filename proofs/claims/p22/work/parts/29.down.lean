/-! a run that has room has it with less made before -/
theorem zex1_down {X Y : zX} (hXY : ∀ pc L st h c n c0 n0, c0 ≤ c → n0 ≤ n → X pc L st h c n → Y pc L st h c0 n0) {e : zE} {L : zL} {st : List Value} {h : zH} {c n c0 n0 : Nat} (hc : c0 ≤ c) (hn : n0 ≤ n) : zex1 X e L st h c n → zex1 Y e L st h c0 n0 := by
  obtain ⟨ins, nx, a, b, d, v⟩ := e
  unfold zex1
  cases ins <;> dsimp only <;> (try split) <;> first
    | exact fun q => q
    | exact fun q => hXY _ _ _ _ _ _ _ _ hc hn q
    | exact fun q => ⟨q.1, hXY _ _ _ _ _ _ _ _ hc hn q.2⟩
    | exact fun q => ⟨q.1, q.2.1, hXY _ _ _ _ _ _ _ _ hc hn q.2.2⟩
    | exact fun q => ⟨fun z => hXY _ _ _ _ _ _ _ _ hc hn (q.1 z), fun z => hXY _ _ _ _ _ _ _ _ hc hn (q.2 z)⟩
theorem zle_add {a b k B : Nat} (h : a ≤ b) (q : b + k ≤ B) : a + k ≤ B := Nat.le_trans (Nat.add_le_add_right h k) q
theorem zex2_down {tt : zT} {G : zG} {bc bs : Nat} {rt : Option FieldType} {M : zM} {ret : zQ} (hM : zmono M) {X Y : zX} (hXY : ∀ pc L st h c n c0 n0, c0 ≤ c → n0 ≤ n → X pc L st h c n → Y pc L st h c0 n0) {e : zE} {L : zL} {st : List Value} {h : zH} {c n c0 n0 : Nat} (hc : c0 ≤ c) (hn : n0 ≤ n) : zex2 tt G bc bs rt M ret X e L st h c n → zex2 tt G bc bs rt M ret Y e L st h c0 n0 := by
  obtain ⟨ins, nx, a, b, d, v⟩ := e
  unfold zex2
  cases ins <;> dsimp only <;> (try split) <;> first
    | exact fun q => q
    | exact fun q => hXY _ _ _ _ _ _ _ _ hc hn q
    | exact fun q => ⟨q.1, hXY _ _ _ _ _ _ _ _ hc hn q.2⟩
    | exact fun q => ⟨q.1, q.2.1, hXY _ _ _ _ _ _ _ _ hc hn q.2.2⟩
    | exact fun q => ⟨zle_add hc q.1, zle_add hn q.2.1, hXY _ _ _ _ _ _ _ _ (Nat.add_le_add_right hc _) (Nat.add_le_add_right hn _) q.2.2⟩
    | exact fun q => ⟨q.1, q.2.1, zle_add hc q.2.2.1, zle_add hn q.2.2.2.1, q.2.2.2.2.1, hXY _ _ _ _ _ _ _ _ (Nat.add_le_add_right hc _) (Nat.add_le_add_right hn _) q.2.2.2.2.2⟩
    | exact fun q => ⟨q.1, q.2.1, q.2.2.1, q.2.2.2.1, zle_add hc q.2.2.2.2.1, zle_add hn q.2.2.2.2.2.1, hXY _ _ _ _ _ _ _ _ (Nat.add_le_add_right (Nat.add_le_add_right hc _) _) (Nat.add_le_add_right (Nat.add_le_add_right hn _) _) q.2.2.2.2.2.2⟩
    | exact fun ⟨N, f, q⟩ => ⟨N, f, q.1, q.2.1, hXY _ _ _ _ _ _ _ _ hc hn q.2.2⟩
    | exact fun ⟨N, f, q⟩ => ⟨N, f, q.1, ⟨q.2.1.1, zle_add hc q.2.1.2.1, zle_add hn q.2.1.2.2⟩, hXY _ _ _ _ _ _ _ _ (Nat.add_le_add_right hc _) (Nat.add_le_add_right hn _) q.2.2⟩
    | exact fun ⟨N, K, f, g, q⟩ => ⟨N, K, f, g, q.1, q.2.1, q.2.2.1, hXY _ _ _ _ _ _ _ _ hc hn q.2.2.2⟩
    | exact fun ⟨k, N, f, q⟩ => ⟨k, N, f, q.1, q.2.1, hXY _ _ _ _ _ _ _ _ hc hn q.2.2⟩
    | exact fun ⟨k, N, f, q⟩ => ⟨k, N, f, q.1, q.2.1, q.2.2.1, hXY _ _ _ _ _ _ _ _ hc hn q.2.2.2⟩
    | exact fun ⟨fs, t, q⟩ => ⟨fs, t, q.1, q.2.1, q.2.2.1, q.2.2.2.1, q.2.2.2.2.1, hXY _ _ _ _ _ _ _ _ hc hn q.2.2.2.2.2⟩
    | exact fun q => ⟨fun z => hXY _ _ _ _ _ _ _ _ hc hn (q.1 z), fun z1 z2 => (q.2 z1 z2).imp fun t w => ⟨w.1, hXY _ _ _ _ _ _ _ _ hc hn w.2⟩⟩
    | exact fun q => ⟨q.1, q.2.1, q.2.2.1, zle_add hc q.2.2.2.1, zle_add hn q.2.2.2.2.1, hM _ _ _ _ _ (fun w h2 z => hXY _ _ _ _ _ _ _ _ (Nat.add_le_add_right hc _) (Nat.add_le_add_right hn _) z) q.2.2.2.2.2⟩
    | exact fun q => ⟨q.1, q.2.1, zle_add hc q.2.2.1, zle_add hn q.2.2.2.1, hM _ _ _ _ _ (fun w h2 z => hXY _ _ _ _ _ _ _ _ (Nat.add_le_add_right hc _) (Nat.add_le_add_right hn _) z) q.2.2.2.2⟩
theorem zR_down {tt : zT} {G : zG} {cd : zK} {bc bs : Nat} {rt : Option FieldType} {M : zM} {ret : zQ} {pc : Nat} {L : zL} {st : List Value} {h : zH} {c n c0 n0 : Nat} (hM : zmono M) (hc : c0 ≤ c) (hn : n0 ≤ n) (k : zR tt G cd bc bs rt M ret pc L st h c n) : zR tt G cd bc bs rt M ret pc L st h c0 n0 := by
  refine k (fun pc L st h c n => ∀ c0 n0, c0 ≤ c → n0 ≤ n → zR tt G cd bc bs rt M ret pc L st h c0 n0) (fun pc L st h c n q c0 n0 hc hn => zR.step hM ?_) c0 n0 hc hn
  unfold zstep at q ⊢
  split at q
  · unfold zex at q ⊢
    exact q.elim (fun z => Or.inl (zex1_down (fun _ _ _ _ _ _ c0 n0 hc hn z => z c0 n0 hc hn) hc hn z)) (fun z => Or.inr (zex2_down hM (fun _ _ _ _ _ _ c0 n0 hc hn z => z c0 n0 hc hn) hc hn z))
  · exact q.elim
