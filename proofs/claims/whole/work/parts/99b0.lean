/-! the texts of the class -/
theorem okS0 : okS 1000000 [100, 105, 118, 32, 112, 32, 104, 49, 32, 117, 108, 32, 108, 105, 32, 102, 111, 114, 109, 32, 115, 112, 97, 110, 32, 97, 32, 98, 32, 105, 32, 98, 114, 32, 104, 114, 32, 105, 109, 103, 32, 105, 110, 112, 117, 116, 32, 98, 117, 116, 116, 111, 110, 32, 115, 116, 121, 108, 101] := ⟨_, rfl, by decide⟩ -- div p h1 ul li form span a b i br hr img input button style
theorem okS1 : okS 1000001 [47, 47, 104, 111, 109, 101, 47] := ⟨_, rfl, by decide⟩ -- //home/
theorem okS2 : okS 1000002 [47, 47] := ⟨_, rfl, by decide⟩ -- //
theorem okS3 : okS 1000003 [105, 100] := ⟨_, rfl, by decide⟩ -- id
theorem okS4 : okS 1000004 [99, 108, 97, 115, 115] := ⟨_, rfl, by decide⟩ -- class
theorem okS5 : okS 1000005 [47, 47] := ⟨_, rfl, by decide⟩ -- //
theorem okS6 : okS 1000006 [97, 103, 101, 61] := ⟨_, rfl, by decide⟩ -- age=
theorem okS7 : okS 1000007 [99, 111, 111, 107, 105, 101, 61] := ⟨_, rfl, by decide⟩ -- cookie=
theorem okS8 : okS 1000008 [116, 111, 61] := ⟨_, rfl, by decide⟩ -- to=
theorem okS9 : okS 1000009 [111, 112, 101, 110] := ⟨_, rfl, by decide⟩ -- open
theorem okS10 : okS 1000010 [60, 47, 115, 116, 121, 108, 101] := ⟨_, rfl, by decide⟩ -- </style
theorem okS11 : okS 1000011 [38, 108, 116, 59] := ⟨_, rfl, by decide⟩ -- &lt;
theorem okS12 : okS 1000012 [38, 103, 116, 59] := ⟨_, rfl, by decide⟩ -- &gt;
theorem okS13 : okS 1000013 [38, 97, 109, 112, 59] := ⟨_, rfl, by decide⟩ -- &amp;
theorem okS14 : okS 1000014 [38, 113, 117, 111, 116, 59] := ⟨_, rfl, by decide⟩ -- &quot;
theorem okS15 : okS 1000015 [118, 97, 108, 117, 101] := ⟨_, rfl, by decide⟩ -- value
theorem okS16 : okS 1000016 [116, 121, 112, 101] := ⟨_, rfl, by decide⟩ -- type
theorem okS17 : okS 1000017 [99, 104, 101, 99, 107] := ⟨_, rfl, by decide⟩ -- check
theorem okS18 : okS 1000018 [99, 104, 101, 99, 107, 101, 100] := ⟨_, rfl, by decide⟩ -- checked
theorem okS19 : okS 1000019 [60, 33, 45, 45] := ⟨_, rfl, by decide⟩ -- <!~~
theorem okS20 : okS 1000020 [45, 45, 62] := ⟨_, rfl, by decide⟩ -- ~~>
theorem okS21 : okS 1000021 [111, 110, 108, 111, 97, 100] := ⟨_, rfl, by decide⟩ -- onload
theorem okS22 : okS 1000022 [116, 101, 120, 116, 32, 99, 108, 97, 115, 115, 32, 97, 100, 100, 32, 100, 101, 108, 32, 118, 97, 108, 32, 103, 111, 32, 103, 101, 116, 32, 112, 117, 116, 32, 114, 101, 97, 100, 32, 119, 97, 105, 116, 32, 115, 116, 111, 112] := ⟨_, rfl, by decide⟩ -- text class add del val go get put read wait stop
theorem okS23 : okS 1000023 [115, 101, 108, 102] := ⟨_, rfl, by decide⟩ -- self
theorem okS24 : okS 1000024 [105, 100] := ⟨_, rfl, by decide⟩ -- id
theorem okS25 : okS 1000025 [99, 108, 97, 115, 115] := ⟨_, rfl, by decide⟩ -- class
theorem okS26 : okS 1000026 [111, 110, 112, 114, 101, 115, 115] := ⟨_, rfl, by decide⟩ -- onpress
theorem okS27 : okS 1000027 [111, 110, 107, 101, 121] := ⟨_, rfl, by decide⟩ -- onkey
theorem okS28 : okS 1000028 [97, 99, 116, 105, 111, 110] := ⟨_, rfl, by decide⟩ -- action
theorem okS29 : okS 1000029 [110, 97, 109, 101] := ⟨_, rfl, by decide⟩ -- name
theorem okS30 : okS 1000030 [111, 110] := ⟨_, rfl, by decide⟩ -- on
theorem okS31 : okS 1000031 [104, 114, 101, 102] := ⟨_, rfl, by decide⟩ -- href
theorem okS32 : okS 1000032 [38, 108, 116, 59] := ⟨_, rfl, by decide⟩ -- &lt;
theorem okS33 : okS 1000033 [38, 103, 116, 59] := ⟨_, rfl, by decide⟩ -- &gt;
theorem okS34 : okS 1000034 [38, 97, 109, 112, 59] := ⟨_, rfl, by decide⟩ -- &amp;
theorem okS35 : okS 1000035 [38, 113, 117, 111, 116, 59] := ⟨_, rfl, by decide⟩ -- &quot;
theorem okS36 : okS 1000036 [61, 34] := ⟨_, rfl, by decide⟩ -- ="
theorem okS37 : okS 1000037 [60, 47] := ⟨_, rfl, by decide⟩ -- </
theorem okS38 : okS 1000038 [100, 105, 115, 112, 108, 97, 121, 32, 99, 111, 108, 111, 114, 32, 98, 97, 99, 107, 103, 114, 111, 117, 110, 100, 32, 109, 97, 114, 103, 105, 110, 32, 112, 97, 100, 100, 105, 110, 103, 32, 98, 111, 114, 100, 101, 114, 32, 119, 105, 100, 116, 104, 32, 104, 101, 105, 103, 104, 116, 32, 115, 105, 122, 101, 32, 97, 108, 105, 103, 110, 32, 102, 108, 111, 97, 116] := ⟨_, rfl, by decide⟩ -- display color background margin padding border width height size align float
theorem okS39 : okS 1000039 [98, 108, 111, 99, 107, 32, 105, 110, 108, 105, 110, 101, 32, 110, 111, 110, 101, 32, 102, 108, 101, 120] := ⟨_, rfl, by decide⟩ -- block inline none flex
theorem okS40 : okS 1000040 [108, 101, 102, 116, 32, 99, 101, 110, 116, 101, 114, 32, 114, 105, 103, 104, 116] := ⟨_, rfl, by decide⟩ -- left center right
theorem okS41 : okS 1000041 [110, 111, 110, 101, 32, 108, 101, 102, 116, 32, 114, 105, 103, 104, 116] := ⟨_, rfl, by decide⟩ -- none left right
