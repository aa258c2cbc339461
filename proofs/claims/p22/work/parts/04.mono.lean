theorem zex1_mono {X Y : zX} (hXY : ∀ pc L st h c n, X pc L st h c n → Y pc L st h c n) {e : zE} {L : zL} {st : List Value} {h : zH} {c n : Nat} : zex1 X e L st h c n → zex1 Y e L st h c n := by
  obtain ⟨ins, nx, a, b, d, v⟩ := e
  unfold zex1
  cases ins <;> dsimp only <;> (try split) <;> first
    | exact fun q => q
    | exact fun q => hXY _ _ _ _ _ _ q
    | exact fun q => ⟨q.1, hXY _ _ _ _ _ _ q.2⟩
    | exact fun q => ⟨q.1, q.2.1, hXY _ _ _ _ _ _ q.2.2⟩
    | exact fun q => ⟨fun z => hXY _ _ _ _ _ _ (q.1 z), fun z => hXY _ _ _ _ _ _ (q.2 z)⟩
theorem zex2_mono {tt : zT} {G : zG} {bc bs : Nat} {rt : Option FieldType} {M : zM} {ret ret2 : zQ} (hM : zmono M) (hr : ∀ w h, ret w h → ret2 w h) {X Y : zX} (hXY : ∀ pc L st h c n, X pc L st h c n → Y pc L st h c n) {e : zE} {L : zL} {st : List Value} {h : zH} {c n : Nat} : zex2 tt G bc bs rt M ret X e L st h c n → zex2 tt G bc bs rt M ret2 Y e L st h c n := by
  obtain ⟨ins, nx, a, b, d, v⟩ := e
  unfold zex2
  cases ins <;> dsimp only <;> (try split) <;> first
    | exact fun q => q
    | exact fun q => hXY _ _ _ _ _ _ q
    | exact fun q => ⟨q.1, hXY _ _ _ _ _ _ q.2⟩
    | exact fun q => ⟨q.1, hr _ _ q.2⟩
    | exact fun q => ⟨q.1, q.2.1, hXY _ _ _ _ _ _ q.2.2⟩
    | exact fun q => ⟨q.1, q.2.1, q.2.2.1, q.2.2.2.1, q.2.2.2.2.1, hXY _ _ _ _ _ _ q.2.2.2.2.2⟩
    | exact fun q => ⟨q.1, q.2.1, q.2.2.1, q.2.2.2.1, q.2.2.2.2.1, q.2.2.2.2.2.1, hXY _ _ _ _ _ _ q.2.2.2.2.2.2⟩
    | exact fun ⟨N, f, q⟩ => ⟨N, f, q.1, q.2.1, hXY _ _ _ _ _ _ q.2.2⟩
    | exact fun ⟨N, K, f, g, q⟩ => ⟨N, K, f, g, q.1, q.2.1, q.2.2.1, hXY _ _ _ _ _ _ q.2.2.2⟩
    | exact fun ⟨k, N, f, q⟩ => ⟨k, N, f, q.1, q.2.1, hXY _ _ _ _ _ _ q.2.2⟩
    | exact fun ⟨k, N, f, q⟩ => ⟨k, N, f, q.1, q.2.1, q.2.2.1, hXY _ _ _ _ _ _ q.2.2.2⟩
    | exact fun ⟨fs, t, q⟩ => ⟨fs, t, q.1, q.2.1, q.2.2.1, q.2.2.2.1, q.2.2.2.2.1, hXY _ _ _ _ _ _ q.2.2.2.2.2⟩
    | exact fun q => ⟨fun z => hXY _ _ _ _ _ _ (q.1 z), fun z1 z2 => (q.2 z1 z2).imp fun t w => ⟨w.1, hXY _ _ _ _ _ _ w.2⟩⟩
    | exact fun q => ⟨q.1, q.2.1, q.2.2.1, q.2.2.2.1, q.2.2.2.2.1, hM _ _ _ _ _ (fun w h2 z => hXY _ _ _ _ _ _ z) q.2.2.2.2.2⟩
    | exact fun q => ⟨q.1, q.2.1, q.2.2.1, q.2.2.2.1, hM _ _ _ _ _ (fun w h2 z => hXY _ _ _ _ _ _ z) q.2.2.2.2⟩
section ZR
variable {tt : zT} {G : zG} {cd : zK} {bc bs : Nat} {rt : Option FieldType} {M : zM} {ret : zQ} {pc : Nat} {L : zL} {st : List Value} {h : zH} {c n : Nat}
theorem zstep_mono (hM : zmono M) {ret2 : zQ} (hr : ∀ w h, ret w h → ret2 w h) {X Y : zX} (hXY : ∀ pc L st h c n, X pc L st h c n → Y pc L st h c n) : zstep tt G bc bs rt M ret X cd pc L st h c n → zstep tt G bc bs rt M ret2 Y cd pc L st h c n := by
  unfold zstep zex
  split
  · exact fun q => q.elim (fun z => Or.inl (zex1_mono hXY z)) (fun z => Or.inr (zex2_mono hM hr hXY z))
  · exact fun q => q
theorem zR.step (hM : zmono M) (k : zstep tt G bc bs rt M ret (zR tt G cd bc bs rt M ret) cd pc L st h c n) : zR tt G cd bc bs rt M ret pc L st h c n :=
  fun X hX => hX _ _ _ _ _ _ (zstep_mono hM (fun _ _ z => z) (fun _ _ _ _ _ _ q => q X hX) k)
theorem zR_post {ret2 : zQ} (hM : zmono M) (hr : ∀ w h, ret w h → ret2 w h) (k : zR tt G cd bc bs rt M ret pc L st h c n) : zR tt G cd bc bs rt M ret2 pc L st h c n :=
  k (zR tt G cd bc bs rt M ret2) (fun _ _ _ _ _ _ q => zR.step hM (zstep_mono hM hr (fun _ _ _ _ _ _ z => z) q))
end ZR
theorem zW_mono (tt : zT) (G : zG) : ∀ d : Nat, zmono (zW tt G d)
  | 0 => fun _ _ _ _ _ _ q => q
  | d + 1 => by
    intro j as h Q Q' hq k
    unfold zW at k ⊢
    split at k
    · exact ⟨k.1, zR_post (zW_mono tt G d) hq k.2⟩
    · exact k
