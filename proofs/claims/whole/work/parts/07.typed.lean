/-! THE WHOLE SYSTEM's SHAPE, behind both constructors; judgements for methods that make nothing -/
def SK : List zK := [
  .inr (10, [some (some 1), some (some 3), some (some 5), some (some 26), some (some 30), some (some 56), some (some 59), some (some 65), some (some 68), none]),
  .inr (7, [some (some 2), some (some 1000), some (some 1001), some (some 1002), none]),
  .inl (0, 31),
  .inr (7, [some (some 4), some (some 1003), some (some 1004), some (some 1005), none]),
  .inl (0, 39),
  .inr (8, [some (some 6), some (some 10), some (some 14), some (some 18), some (some 22), none, none]),
  .inr (5, [some (some 7), some (some 8), some (some 9), none]),
  .inl (0, 8),
  .inl (0, 8),
  .inl (0, 8),
  .inr (5, [some (some 11), some (some 12), some (some 13), none]),
  .inl (0, 10),
  .inl (0, 10),
  .inl (0, 10),
  .inr (5, [some (some 15), some (some 16), some (some 17), none]),
  .inl (0, 9),
  .inl (0, 9),
  .inl (0, 9),
  .inr (5, [some (some 19), some (some 20), some (some 21), none]),
  .inl (0, 8),
  .inl (0, 8),
  .inl (0, 8),
  .inr (5, [some (some 23), some (some 24), some (some 25), none]),
  .inl (0, 8),
  .inl (0, 8),
  .inl (0, 8),
  .inr (2, [some (some 5), some (some 27), some (some 28), some (some 29), none, none]),
  .inl (0, 41),
  .inl (0, 984),
  .inl (0, 8),
  .inr (3, [some (some 5), some (some 31), some (some 52)]),
  .inr (8, [some (some 32), some (some 36), some (some 40), some (some 44), some (some 48), none, none]),
  .inr (5, [some (some 33), some (some 34), some (some 35), none]),
  .inl (0, 8),
  .inl (0, 8),
  .inl (0, 8),
  .inr (5, [some (some 37), some (some 38), some (some 39), none]),
  .inl (0, 10),
  .inl (0, 10),
  .inl (0, 10),
  .inr (5, [some (some 41), some (some 42), some (some 43), none]),
  .inl (0, 9),
  .inl (0, 9),
  .inl (0, 9),
  .inr (5, [some (some 45), some (some 46), some (some 47), none]),
  .inl (0, 8),
  .inl (0, 8),
  .inl (0, 8),
  .inr (5, [some (some 49), some (some 50), some (some 51), none]),
  .inl (0, 8),
  .inl (0, 8),
  .inl (0, 8),
  .inr (2, [some (some 31), some (some 53), some (some 54), some (some 55), none, none]),
  .inl (0, 41),
  .inl (0, 984),
  .inl (0, 8),
  .inr (4, [some (some 30), some (some 57), some (some 58), none, none, none, none, none, none, none, none]),
  .inr (1, [none, none]),
  .inl (0, 448),
  .inr (9, [some (some 60), none, some (some 30), some (some 64), none]),
  .inr (5, [some (some 61), some (some 62), some (some 63), none]),
  .inl (0, 8),
  .inl (0, 8),
  .inl (0, 8),
  .inl (0, 1920),
  .inr (0, [some (some 30), some (some 66), some (some 67), none, none, none]),
  .inl (1, 8),
  .inl (1, 8),
  .inr (6, [some (some 69), some (some 70), some (some 71), none]),
  .inl (0, 4),
  .inl (0, 4),
  .inl (0, 240),
  .inr (11, [some (some 73), some (some 74), none, some (some 75), some (some 76), some (some 77), none, some (some 78), some (some 79), some (some 80), none, none, none, some (some 81), some (some 82), some (some 83), none, some (some 84), some (some 85), some (some 86), none, some (some 87), none, none, none, some (some 88), some (some 89), some (some 90), some (some 91), some (some 92), none, none, none, none, some (some 93), some (some 94), some (some 95), some (some 96), some (some 97), some (some 98), some (some 99), some (some 100), some (some 101), some (some 102), some (some 103), none, some (some 104), some (some 105), some (some 106), some (some 107), some (some 108), some (some 109), some (some 110), some (some 111), some (some 112), none]),
  .inl (0, 2),
  .inl (0, 78),
  .inl (0, 9),
  .inl (0, 9),
  .inl (0, 9),
  .inl (0, 11),
  .inl (0, 11),
  .inl (0, 11),
  .inl (0, 9),
  .inl (0, 9),
  .inl (0, 9),
  .inl (0, 8),
  .inl (0, 8),
  .inl (0, 8),
  .inl (0, 6),
  .inl (0, 8),
  .inl (0, 8),
  .inl (0, 8),
  .inl (0, 8),
  .inl (0, 8),
  .inl (0, 4),
  .inl (0, 4),
  .inl (0, 192),
  .inl (0, 192),
  .inl (0, 192),
  .inl (0, 24),
  .inl (0, 24),
  .inl (0, 96),
  .inl (0, 96),
  .inl (0, 2),
  .inl (0, 2),
  .inl (0, 8),
  .inl (0, 8),
  .inl (0, 8),
  .inl (0, 240),
  .inl (2, 4),
  .inl (0, 4),
  .inl (0, 4),
  .inl (0, 240),
  .inl (0, 60)]
theorem SK_len : SK.length = 113 := rfl
theorem sk0 : SK[0]? = some (.inr (10, [some (some 1), some (some 3), some (some 5), some (some 26), some (some 30), some (some 56), some (some 59), some (some 65), some (some 68), none])) := rfl
theorem sk1 : SK[1]? = some (.inr (7, [some (some 2), some (some 1000), some (some 1001), some (some 1002), none])) := rfl
theorem sk2 : SK[2]? = some (.inl (0, 31)) := rfl
theorem sk3 : SK[3]? = some (.inr (7, [some (some 4), some (some 1003), some (some 1004), some (some 1005), none])) := rfl
theorem sk4 : SK[4]? = some (.inl (0, 39)) := rfl
theorem sk5 : SK[5]? = some (.inr (8, [some (some 6), some (some 10), some (some 14), some (some 18), some (some 22), none, none])) := rfl
theorem sk6 : SK[6]? = some (.inr (5, [some (some 7), some (some 8), some (some 9), none])) := rfl
theorem sk7 : SK[7]? = some (.inl (0, 8)) := rfl
theorem sk8 : SK[8]? = some (.inl (0, 8)) := rfl
theorem sk9 : SK[9]? = some (.inl (0, 8)) := rfl
theorem sk10 : SK[10]? = some (.inr (5, [some (some 11), some (some 12), some (some 13), none])) := rfl
theorem sk11 : SK[11]? = some (.inl (0, 10)) := rfl
theorem sk12 : SK[12]? = some (.inl (0, 10)) := rfl
theorem sk13 : SK[13]? = some (.inl (0, 10)) := rfl
theorem sk14 : SK[14]? = some (.inr (5, [some (some 15), some (some 16), some (some 17), none])) := rfl
theorem sk15 : SK[15]? = some (.inl (0, 9)) := rfl
theorem sk16 : SK[16]? = some (.inl (0, 9)) := rfl
theorem sk17 : SK[17]? = some (.inl (0, 9)) := rfl
theorem sk18 : SK[18]? = some (.inr (5, [some (some 19), some (some 20), some (some 21), none])) := rfl
theorem sk19 : SK[19]? = some (.inl (0, 8)) := rfl
theorem sk20 : SK[20]? = some (.inl (0, 8)) := rfl
theorem sk21 : SK[21]? = some (.inl (0, 8)) := rfl
theorem sk22 : SK[22]? = some (.inr (5, [some (some 23), some (some 24), some (some 25), none])) := rfl
theorem sk23 : SK[23]? = some (.inl (0, 8)) := rfl
theorem sk24 : SK[24]? = some (.inl (0, 8)) := rfl
theorem sk25 : SK[25]? = some (.inl (0, 8)) := rfl
theorem sk26 : SK[26]? = some (.inr (2, [some (some 5), some (some 27), some (some 28), some (some 29), none, none])) := rfl
theorem sk27 : SK[27]? = some (.inl (0, 41)) := rfl
theorem sk28 : SK[28]? = some (.inl (0, 984)) := rfl
theorem sk29 : SK[29]? = some (.inl (0, 8)) := rfl
theorem sk30 : SK[30]? = some (.inr (3, [some (some 5), some (some 31), some (some 52)])) := rfl
theorem sk31 : SK[31]? = some (.inr (8, [some (some 32), some (some 36), some (some 40), some (some 44), some (some 48), none, none])) := rfl
theorem sk32 : SK[32]? = some (.inr (5, [some (some 33), some (some 34), some (some 35), none])) := rfl
theorem sk33 : SK[33]? = some (.inl (0, 8)) := rfl
theorem sk34 : SK[34]? = some (.inl (0, 8)) := rfl
theorem sk35 : SK[35]? = some (.inl (0, 8)) := rfl
theorem sk36 : SK[36]? = some (.inr (5, [some (some 37), some (some 38), some (some 39), none])) := rfl
theorem sk37 : SK[37]? = some (.inl (0, 10)) := rfl
theorem sk38 : SK[38]? = some (.inl (0, 10)) := rfl
theorem sk39 : SK[39]? = some (.inl (0, 10)) := rfl
theorem sk40 : SK[40]? = some (.inr (5, [some (some 41), some (some 42), some (some 43), none])) := rfl
theorem sk41 : SK[41]? = some (.inl (0, 9)) := rfl
theorem sk42 : SK[42]? = some (.inl (0, 9)) := rfl
theorem sk43 : SK[43]? = some (.inl (0, 9)) := rfl
theorem sk44 : SK[44]? = some (.inr (5, [some (some 45), some (some 46), some (some 47), none])) := rfl
theorem sk45 : SK[45]? = some (.inl (0, 8)) := rfl
theorem sk46 : SK[46]? = some (.inl (0, 8)) := rfl
theorem sk47 : SK[47]? = some (.inl (0, 8)) := rfl
theorem sk48 : SK[48]? = some (.inr (5, [some (some 49), some (some 50), some (some 51), none])) := rfl
theorem sk49 : SK[49]? = some (.inl (0, 8)) := rfl
theorem sk50 : SK[50]? = some (.inl (0, 8)) := rfl
theorem sk51 : SK[51]? = some (.inl (0, 8)) := rfl
theorem sk52 : SK[52]? = some (.inr (2, [some (some 31), some (some 53), some (some 54), some (some 55), none, none])) := rfl
theorem sk53 : SK[53]? = some (.inl (0, 41)) := rfl
theorem sk54 : SK[54]? = some (.inl (0, 984)) := rfl
theorem sk55 : SK[55]? = some (.inl (0, 8)) := rfl
theorem sk56 : SK[56]? = some (.inr (4, [some (some 30), some (some 57), some (some 58), none, none, none, none, none, none, none, none])) := rfl
theorem sk57 : SK[57]? = some (.inr (1, [none, none])) := rfl
theorem sk58 : SK[58]? = some (.inl (0, 448)) := rfl
theorem sk59 : SK[59]? = some (.inr (9, [some (some 60), none, some (some 30), some (some 64), none])) := rfl
theorem sk60 : SK[60]? = some (.inr (5, [some (some 61), some (some 62), some (some 63), none])) := rfl
theorem sk61 : SK[61]? = some (.inl (0, 8)) := rfl
theorem sk62 : SK[62]? = some (.inl (0, 8)) := rfl
theorem sk63 : SK[63]? = some (.inl (0, 8)) := rfl
theorem sk64 : SK[64]? = some (.inl (0, 1920)) := rfl
theorem sk65 : SK[65]? = some (.inr (0, [some (some 30), some (some 66), some (some 67), none, none, none])) := rfl
theorem sk66 : SK[66]? = some (.inl (1, 8)) := rfl
theorem sk67 : SK[67]? = some (.inl (1, 8)) := rfl
theorem sk68 : SK[68]? = some (.inr (6, [some (some 69), some (some 70), some (some 71), none])) := rfl
theorem sk69 : SK[69]? = some (.inl (0, 4)) := rfl
theorem sk70 : SK[70]? = some (.inl (0, 4)) := rfl
theorem sk71 : SK[71]? = some (.inl (0, 240)) := rfl
theorem sk72 : SK[72]? = some (.inr (11, [some (some 73), some (some 74), none, some (some 75), some (some 76), some (some 77), none, some (some 78), some (some 79), some (some 80), none, none, none, some (some 81), some (some 82), some (some 83), none, some (some 84), some (some 85), some (some 86), none, some (some 87), none, none, none, some (some 88), some (some 89), some (some 90), some (some 91), some (some 92), none, none, none, none, some (some 93), some (some 94), some (some 95), some (some 96), some (some 97), some (some 98), some (some 99), some (some 100), some (some 101), some (some 102), some (some 103), none, some (some 104), some (some 105), some (some 106), some (some 107), some (some 108), some (some 109), some (some 110), some (some 111), some (some 112), none])) := rfl
theorem sk73 : SK[73]? = some (.inl (0, 2)) := rfl
theorem sk74 : SK[74]? = some (.inl (0, 78)) := rfl
theorem sk75 : SK[75]? = some (.inl (0, 9)) := rfl
theorem sk76 : SK[76]? = some (.inl (0, 9)) := rfl
theorem sk77 : SK[77]? = some (.inl (0, 9)) := rfl
theorem sk78 : SK[78]? = some (.inl (0, 11)) := rfl
theorem sk79 : SK[79]? = some (.inl (0, 11)) := rfl
theorem sk80 : SK[80]? = some (.inl (0, 11)) := rfl
theorem sk81 : SK[81]? = some (.inl (0, 9)) := rfl
theorem sk82 : SK[82]? = some (.inl (0, 9)) := rfl
theorem sk83 : SK[83]? = some (.inl (0, 9)) := rfl
theorem sk84 : SK[84]? = some (.inl (0, 8)) := rfl
theorem sk85 : SK[85]? = some (.inl (0, 8)) := rfl
theorem sk86 : SK[86]? = some (.inl (0, 8)) := rfl
theorem sk87 : SK[87]? = some (.inl (0, 6)) := rfl
theorem sk88 : SK[88]? = some (.inl (0, 8)) := rfl
theorem sk89 : SK[89]? = some (.inl (0, 8)) := rfl
theorem sk90 : SK[90]? = some (.inl (0, 8)) := rfl
theorem sk91 : SK[91]? = some (.inl (0, 8)) := rfl
theorem sk92 : SK[92]? = some (.inl (0, 8)) := rfl
theorem sk93 : SK[93]? = some (.inl (0, 4)) := rfl
theorem sk94 : SK[94]? = some (.inl (0, 4)) := rfl
theorem sk95 : SK[95]? = some (.inl (0, 192)) := rfl
theorem sk96 : SK[96]? = some (.inl (0, 192)) := rfl
theorem sk97 : SK[97]? = some (.inl (0, 192)) := rfl
theorem sk98 : SK[98]? = some (.inl (0, 24)) := rfl
theorem sk99 : SK[99]? = some (.inl (0, 24)) := rfl
theorem sk100 : SK[100]? = some (.inl (0, 96)) := rfl
theorem sk101 : SK[101]? = some (.inl (0, 96)) := rfl
theorem sk102 : SK[102]? = some (.inl (0, 2)) := rfl
theorem sk103 : SK[103]? = some (.inl (0, 2)) := rfl
theorem sk104 : SK[104]? = some (.inl (0, 8)) := rfl
theorem sk105 : SK[105]? = some (.inl (0, 8)) := rfl
theorem sk106 : SK[106]? = some (.inl (0, 8)) := rfl
theorem sk107 : SK[107]? = some (.inl (0, 240)) := rfl
theorem sk108 : SK[108]? = some (.inl (2, 4)) := rfl
theorem sk109 : SK[109]? = some (.inl (0, 4)) := rfl
theorem sk110 : SK[110]? = some (.inl (0, 4)) := rfl
theorem sk111 : SK[111]? = some (.inl (0, 240)) := rfl
theorem sk112 : SK[112]? = some (.inl (0, 60)) := rfl
/-- the ends: an int, a long, a reference, nothing -/
abbrev zpi (P : Int32 → zS → zL → Prop) : zP := fun r sk S L => sk = SK ∧ ∃ y, r = some (.int y) ∧ P y S L
abbrev zpl (P : Int64 → zS → zL → Prop) : zP := fun r sk S L => sk = SK ∧ ∃ y, r = some (.long y) ∧ P y S L
abbrev zpr (P : Nat → zS → zL → Prop) : zP := fun r sk S L => sk = SK ∧ ∃ y, r = some (.ref y) ∧ P y S L
abbrev zpv (P : zS → zL → Prop) : zP := fun r sk S L => sk = SK ∧ r = none ∧ P S L
/-- a judgement inside a method that makes nothing -/
abbrev zU (M : zM) (X : Nat × (Nat → Int32)) (S : zS) (L : zL) (pc : Nat) (lv : List (Option Value)) (st : List Value) (post : zP) : Prop := zV M X SK S L (0, 0) pc lv st post
def zCi (M : zM) (S : zS) (L : zL) (av : List Value) (P : Int32 → zS → zL → Prop) : Prop := zCall M SK S L av (zpi P)
def zCl (M : zM) (S : zS) (L : zL) (av : List Value) (P : Int64 → zS → zL → Prop) : Prop := zCall M SK S L av (zpl P)
def zCr (M : zM) (S : zS) (L : zL) (av : List Value) (P : Nat → zS → zL → Prop) : Prop := zCall M SK S L av (zpr P)
def zCv (M : zM) (S : zS) (L : zL) (av : List Value) (P : zS → zL → Prop) : Prop := zCall M SK S L av (zpv P)
theorem Met.mono {l : Launch} {y : MethodName} {ws : List Cond} {rm : Room} {Pc : Array Value → State → Prop} {Qc Qc' : Array Value → State → Outcome → State → Prop} {mc ms : Nat} {free : Addr → Prop} (h : Met l y ws rm Pc Qc mc ms free) (hq : ∀ a s o t, Qc a s o t → Qc' a s o t) : Met l y ws rm Pc Qc' mc ms free := by
  intro p e ha hc hk s m args below hf hfit hheap happ
  obtain ⟨k, o, h1, h2, h3, h4, h5⟩ := h p e ha hc hk s m args below hf hfit hheap happ
  exact ⟨k, o, h1, h2, h3, hq _ _ _ _ h4, h5⟩
theorem zCall_mono {M : zM} {sk : List zK} {S : zS} {L : zL} {av : List Value} {post post' : zP} (h : zCall M sk S L av post) (hp : ∀ r sk' S' L', post r sk' S' L' → post' r sk' S' L') : zCall M sk S L av post' := by
  intro l ad D cs sz
  refine Met.mono (h l ad D cs sz) ?_
  rintro a s o t ⟨⟨r, sk', S', L', ad', q1, q2, q3⟩, q4⟩
  exact ⟨⟨r, sk', S', L', ad', q1, hp _ _ _ _ q2, q3⟩, q4⟩
theorem zCi_mono {M : zM} {S : zS} {L : zL} {av : List Value} {P P' : Int32 → zS → zL → Prop} (h : zCi M S L av P) (hp : ∀ y S' L', P y S' L' → P' y S' L') : zCi M S L av P' := zCall_mono h (fun _ _ _ _ ⟨a, y, b, c⟩ => ⟨a, y, b, hp _ _ _ c⟩)
theorem zCl_mono {M : zM} {S : zS} {L : zL} {av : List Value} {P P' : Int64 → zS → zL → Prop} (h : zCl M S L av P) (hp : ∀ y S' L', P y S' L' → P' y S' L') : zCl M S L av P' := zCall_mono h (fun _ _ _ _ ⟨a, y, b, c⟩ => ⟨a, y, b, hp _ _ _ c⟩)
theorem zCr_mono {M : zM} {S : zS} {L : zL} {av : List Value} {P P' : Nat → zS → zL → Prop} (h : zCr M S L av P) (hp : ∀ y S' L', P y S' L' → P' y S' L') : zCr M S L av P' := zCall_mono h (fun _ _ _ _ ⟨a, y, b, c⟩ => ⟨a, y, b, hp _ _ _ c⟩)
theorem zCv_mono {M : zM} {S : zS} {L : zL} {av : List Value} {P P' : zS → zL → Prop} (h : zCv M S L av P) (hp : ∀ S' L', P S' L' → P' S' L') : zCv M S L av P' := zCall_mono h (fun _ _ _ _ ⟨a, b, c⟩ => ⟨a, b, hp _ _ c⟩)
/-- a plain method: no constructor, no law -/
def zpn (M : zM) : Prop := plainName (zy M).cls = true ∧ (zy M).name ≠ "law"
theorem zCi_of {M : zM} {S : zS} {L : zL} {av : List Value} {P : Int32 → zS → zL → Prop} (hM : zpn M) (hz : (lg_sl av).length ≤ zn M) (h : ∀ X, zU M X S L 0 (zen av) [] (zpi P)) : zCi M S L av P := zV_entry hM.1 hM.2 hz h
theorem zCl_of {M : zM} {S : zS} {L : zL} {av : List Value} {P : Int64 → zS → zL → Prop} (hM : zpn M) (hz : (lg_sl av).length ≤ zn M) (h : ∀ X, zU M X S L 0 (zen av) [] (zpl P)) : zCl M S L av P := zV_entry hM.1 hM.2 hz h
theorem zCr_of {M : zM} {S : zS} {L : zL} {av : List Value} {P : Nat → zS → zL → Prop} (hM : zpn M) (hz : (lg_sl av).length ≤ zn M) (h : ∀ X, zU M X S L 0 (zen av) [] (zpr P)) : zCr M S L av P := zV_entry hM.1 hM.2 hz h
theorem zCv_of {M : zM} {S : zS} {L : zL} {av : List Value} {P : zS → zL → Prop} (hM : zpn M) (hz : (lg_sl av).length ≤ zn M) (h : ∀ X, zU M X S L 0 (zen av) [] (zpv P)) : zCv M S L av P := zV_entry hM.1 hM.2 hz h
section ZT
variable {M N : zM} {X : Nat × (Nat → Int32)} {S : zS} {L : zL} {pc : Nat} {lv lv' : List (Option Value)} {st : List Value} {post : zP} {idx n b : Nat} {As : List Value}
theorem zt_iret {x : Int32} {P : Int32 → zS → zL → Prop} (d : decode (zb M) pc = .ok (.ireturn, 1)) (hr : zr M = some .int) (h : P x S L) : zU M X S L pc lv [.int x] (zpi P) := zv_iret d hr ⟨Nat.zero_le _, Nat.zero_le _⟩ ⟨rfl, x, rfl, h⟩
theorem zt_zret {x : Int32} {ty : FieldType} {P : Int32 → zS → zL → Prop} (d : decode (zb M) pc = .ok (.ireturn, 1)) (hr : zr M = some ty) (hnr : narrow ty (.int x) = .int x) (h : P x S L) : zU M X S L pc lv [.int x] (zpi P) := zv_zret d hr hnr ⟨Nat.zero_le _, Nat.zero_le _⟩ ⟨rfl, x, rfl, h⟩
theorem zt_lret {x : Int64} {P : Int64 → zS → zL → Prop} (d : decode (zb M) pc = .ok (.lreturn, 1)) (hr : zr M = some .long) (h : P x S L) : zU M X S L pc lv [.long x] (zpl P) := zv_lret d hr ⟨Nat.zero_le _, Nat.zero_le _⟩ ⟨rfl, x, rfl, h⟩
theorem zt_aret {x : Nat} {o : String} {P : Nat → zS → zL → Prop} (d : decode (zb M) pc = .ok (.areturn, 1)) (hr : zr M = some (.object o)) (h : P x S L) : zU M X S L pc lv [.ref x] (zpr P) := zv_aret d hr ⟨Nat.zero_le _, Nat.zero_le _⟩ ⟨rfl, x, rfl, h⟩
theorem zt_vret {P : zS → zL → Prop} (d : decode (zb M) pc = .ok (.return_, 1)) (hr : zr M = none) (h : P S L) : zU M X S L pc lv [] (zpv P) := zv_vret d hr ⟨Nat.zero_le _, Nat.zero_le _⟩ ⟨rfl, rfl, h⟩
/-- forget locals -/
def zmsk : List Bool → List (Option Value) → List (Option Value)
  | b :: bs, v :: vs => (if b = true then v else none) :: zmsk bs vs
  | _, _ => []
theorem zmsk_in : ∀ (bs : List Bool) (vs : List (Option Value)) (i : Nat) (v : Value), (zmsk bs vs)[i]? = some (some v) → vs[i]? = some (some v)
  | [], _, i, v, h => by simp [zmsk] at h
  | _ :: _, [], i, v, h => by simp [zmsk] at h
  | b :: bs, w :: vs, 0, v, h => by
    cases b
    · simp [zmsk] at h
    · simpa [zmsk] using h
  | b :: bs, w :: vs, i + 1, v, h => by
    have h2 : (zmsk bs vs)[i]? = some (some v) := by simpa [zmsk] using h
    simpa using zmsk_in bs vs i v h2
theorem zt_drop (bs : List Bool) (h : zmsk bs lv = lv') (k : zU M X S L pc lv' st post) : zU M X S L pc lv st post := zV_drop (fun i v hv => zmsk_in bs lv i v (by rw [h]; exact hv)) k
theorem zt_nmi {x : Int32} (k : ∀ y : Int32, y = x → zU M X S L pc lv (.int y :: st) post) : zU M X S L pc lv (.int x :: st) post := k x rfl
theorem zt_nml {x : Int64} (k : ∀ y : Int64, y = x → zU M X S L pc lv (.long y :: st) post) : zU M X S L pc lv (.long x :: st) post := k x rfl
theorem zt_nmS (k : ∀ S1 : zS, S1 = S → zU M X S1 L pc lv st post) : zU M X S L pc lv st post := k S rfl
theorem zt_nmL (k : ∀ L1 : zL, L1 = L → zU M X S L1 pc lv st post) : zU M X S L pc lv st post := k L rfl
/-- a value by cases -/
theorem zt_ifi {c : Prop} [Decidable c] {x y : Int32} (k : zU M X S L pc lv (.int (if c then x else y) :: st) post) : (c → zU M X S L pc lv (.int x :: st) post) ∧ (¬ c → zU M X S L pc lv (.int y :: st) post) := ⟨fun h => by rw [if_pos h] at k; exact k, fun h => by rw [if_neg h] at k; exact k⟩
/-- a callee that makes nothing -/
abbrev zrz (M N : zM) : Prop := zrm M N ∧ (zm N).cells = 0 ∧ (zm N).slots = 0
abbrev zsk (lv : List (Option Value)) (st : List Value) : Prop := (st.map fun v => v.category).sum ≤ 8 ∧ zokL 113 lv = true ∧ st.all (zok 113) = true
theorem zt_Vi {P : Int32 → zS → zL → Prop} {ci : Nat} {fl : List (Option (Option Nat))} (d : decode (zb M) pc = .ok (.invokevirtual idx, 3)) (hlk : zlV (zy M).cls idx N n) (hb : SK[b]? = some (.inr (ci, fl))) (hci : (vwCl[ci]?).map (fun q => q.1) = some (zy N).cls) (hR : zrz M N) (hn9 : As.length = n) (hk : zsk lv st) (hc : zCi N S L (.ref b :: As) P) (kk : ∀ (y : Int32) (S1 : zS) (L1 : zL), P y S1 L1 → zU M X S1 L1 (pc + 3) lv (.int y :: st) post) : zU M X S L pc lv (As.reverse ++ .ref b :: st) post := by
  refine zi_callV (n9 := 113) d hlk hb hci hR.1 hn9 (by rw [hR.2.1, hR.2.2]; exact ⟨Nat.zero_le _, Nat.zero_le _⟩) hk.1 ⟨Nat.le_of_eq SK_len.symm, hk.2⟩ hc ?_
  intro r sk' S' L' _ hp
  rw [hR.2.1, hR.2.2]
  obtain ⟨rfl, y, rfl, h⟩ := hp
  exact kk y S' L' h
theorem zt_Si {P : Int32 → zS → zL → Prop} (d : decode (zb M) pc = .ok (.invokestatic idx, 3)) (hlk : zlS (zy M).cls idx N n) (hR : zrz M N) (hn9 : As.length = n) (hk : zsk lv st) (hc : zCi N S L As P) (kk : ∀ (y : Int32) (S1 : zS) (L1 : zL), P y S1 L1 → zU M X S1 L1 (pc + 3) lv (.int y :: st) post) : zU M X S L pc lv (As.reverse ++ st) post := by
  refine zi_callS (n9 := 113) d hlk hR.1 hn9 (by rw [hR.2.1, hR.2.2]; exact ⟨Nat.zero_le _, Nat.zero_le _⟩) hk.1 ⟨Nat.le_of_eq SK_len.symm, hk.2⟩ hc ?_
  intro r sk' S' L' _ hp
  rw [hR.2.1, hR.2.2]
  obtain ⟨rfl, y, rfl, h⟩ := hp
  exact kk y S' L' h
theorem zt_Ti {P : Int32 → zS → zL → Prop} {i : Nat} (d : decode (zb M) pc = .ok (.invokevirtual idx, 3)) (hlk : zlV (zy M).cls idx N n) (hi : i < zSn) (hci : (zy N).cls = "java/lang/String") (hR : zrz M N) (hn9 : As.length = n) (hk : zsk lv st) (hc : zCi N S L (.ref (1000 + i) :: As) P) (kk : ∀ (y : Int32) (S1 : zS) (L1 : zL), P y S1 L1 → zU M X S1 L1 (pc + 3) lv (.int y :: st) post) : zU M X S L pc lv (As.reverse ++ .ref (1000 + i) :: st) post := by
  refine zi_callT (n9 := 113) d hlk hi hci hR.1 hn9 (by rw [hR.2.1, hR.2.2]; exact ⟨Nat.zero_le _, Nat.zero_le _⟩) hk.1 ⟨Nat.le_of_eq SK_len.symm, hk.2⟩ hc ?_
  intro r sk' S' L' _ hp
  rw [hR.2.1, hR.2.2]
  obtain ⟨rfl, y, rfl, h⟩ := hp
  exact kk y S' L' h
theorem zt_Vl {P : Int64 → zS → zL → Prop} {ci : Nat} {fl : List (Option (Option Nat))} (d : decode (zb M) pc = .ok (.invokevirtual idx, 3)) (hlk : zlV (zy M).cls idx N n) (hb : SK[b]? = some (.inr (ci, fl))) (hci : (vwCl[ci]?).map (fun q => q.1) = some (zy N).cls) (hR : zrz M N) (hn9 : As.length = n) (hk : zsk lv st) (hc : zCl N S L (.ref b :: As) P) (kk : ∀ (y : Int64) (S1 : zS) (L1 : zL), P y S1 L1 → zU M X S1 L1 (pc + 3) lv (.long y :: st) post) : zU M X S L pc lv (As.reverse ++ .ref b :: st) post := by
  refine zi_callV (n9 := 113) d hlk hb hci hR.1 hn9 (by rw [hR.2.1, hR.2.2]; exact ⟨Nat.zero_le _, Nat.zero_le _⟩) hk.1 ⟨Nat.le_of_eq SK_len.symm, hk.2⟩ hc ?_
  intro r sk' S' L' _ hp
  rw [hR.2.1, hR.2.2]
  obtain ⟨rfl, y, rfl, h⟩ := hp
  exact kk y S' L' h
theorem zt_Sl {P : Int64 → zS → zL → Prop} (d : decode (zb M) pc = .ok (.invokestatic idx, 3)) (hlk : zlS (zy M).cls idx N n) (hR : zrz M N) (hn9 : As.length = n) (hk : zsk lv st) (hc : zCl N S L As P) (kk : ∀ (y : Int64) (S1 : zS) (L1 : zL), P y S1 L1 → zU M X S1 L1 (pc + 3) lv (.long y :: st) post) : zU M X S L pc lv (As.reverse ++ st) post := by
  refine zi_callS (n9 := 113) d hlk hR.1 hn9 (by rw [hR.2.1, hR.2.2]; exact ⟨Nat.zero_le _, Nat.zero_le _⟩) hk.1 ⟨Nat.le_of_eq SK_len.symm, hk.2⟩ hc ?_
  intro r sk' S' L' _ hp
  rw [hR.2.1, hR.2.2]
  obtain ⟨rfl, y, rfl, h⟩ := hp
  exact kk y S' L' h
theorem zt_Vr {P : Nat → zS → zL → Prop} {ci : Nat} {fl : List (Option (Option Nat))} (d : decode (zb M) pc = .ok (.invokevirtual idx, 3)) (hlk : zlV (zy M).cls idx N n) (hb : SK[b]? = some (.inr (ci, fl))) (hci : (vwCl[ci]?).map (fun q => q.1) = some (zy N).cls) (hR : zrz M N) (hn9 : As.length = n) (hk : zsk lv st) (hc : zCr N S L (.ref b :: As) P) (kk : ∀ (y : Nat) (S1 : zS) (L1 : zL), P y S1 L1 → zU M X S1 L1 (pc + 3) lv (.ref y :: st) post) : zU M X S L pc lv (As.reverse ++ .ref b :: st) post := by
  refine zi_callV (n9 := 113) d hlk hb hci hR.1 hn9 (by rw [hR.2.1, hR.2.2]; exact ⟨Nat.zero_le _, Nat.zero_le _⟩) hk.1 ⟨Nat.le_of_eq SK_len.symm, hk.2⟩ hc ?_
  intro r sk' S' L' _ hp
  rw [hR.2.1, hR.2.2]
  obtain ⟨rfl, y, rfl, h⟩ := hp
  exact kk y S' L' h
theorem zt_Sr {P : Nat → zS → zL → Prop} (d : decode (zb M) pc = .ok (.invokestatic idx, 3)) (hlk : zlS (zy M).cls idx N n) (hR : zrz M N) (hn9 : As.length = n) (hk : zsk lv st) (hc : zCr N S L As P) (kk : ∀ (y : Nat) (S1 : zS) (L1 : zL), P y S1 L1 → zU M X S1 L1 (pc + 3) lv (.ref y :: st) post) : zU M X S L pc lv (As.reverse ++ st) post := by
  refine zi_callS (n9 := 113) d hlk hR.1 hn9 (by rw [hR.2.1, hR.2.2]; exact ⟨Nat.zero_le _, Nat.zero_le _⟩) hk.1 ⟨Nat.le_of_eq SK_len.symm, hk.2⟩ hc ?_
  intro r sk' S' L' _ hp
  rw [hR.2.1, hR.2.2]
  obtain ⟨rfl, y, rfl, h⟩ := hp
  exact kk y S' L' h
theorem zt_Vv {P : zS → zL → Prop} {ci : Nat} {fl : List (Option (Option Nat))} (d : decode (zb M) pc = .ok (.invokevirtual idx, 3)) (hlk : zlV (zy M).cls idx N n) (hb : SK[b]? = some (.inr (ci, fl))) (hci : (vwCl[ci]?).map (fun q => q.1) = some (zy N).cls) (hR : zrz M N) (hn9 : As.length = n) (hk : zsk lv st) (hc : zCv N S L (.ref b :: As) P) (kk : ∀ (S1 : zS) (L1 : zL), P S1 L1 → zU M X S1 L1 (pc + 3) lv st post) : zU M X S L pc lv (As.reverse ++ .ref b :: st) post := by
  refine zi_callV (n9 := 113) d hlk hb hci hR.1 hn9 (by rw [hR.2.1, hR.2.2]; exact ⟨Nat.zero_le _, Nat.zero_le _⟩) hk.1 ⟨Nat.le_of_eq SK_len.symm, hk.2⟩ hc ?_
  intro r sk' S' L' _ hp
  rw [hR.2.1, hR.2.2]
  obtain ⟨rfl, rfl, h⟩ := hp
  exact kk S' L' h
theorem zt_Sv {P : zS → zL → Prop} (d : decode (zb M) pc = .ok (.invokestatic idx, 3)) (hlk : zlS (zy M).cls idx N n) (hR : zrz M N) (hn9 : As.length = n) (hk : zsk lv st) (hc : zCv N S L As P) (kk : ∀ (S1 : zS) (L1 : zL), P S1 L1 → zU M X S1 L1 (pc + 3) lv st post) : zU M X S L pc lv (As.reverse ++ st) post := by
  refine zi_callS (n9 := 113) d hlk hR.1 hn9 (by rw [hR.2.1, hR.2.2]; exact ⟨Nat.zero_le _, Nat.zero_le _⟩) hk.1 ⟨Nat.le_of_eq SK_len.symm, hk.2⟩ hc ?_
  intro r sk' S' L' _ hp
  rw [hR.2.1, hR.2.2]
  obtain ⟨rfl, rfl, h⟩ := hp
  exact kk S' L' h
end ZT
