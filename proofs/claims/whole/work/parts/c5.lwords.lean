/-! the law's own small methods: tables and words -/
def mL_set : kM := (99, yL_set, cL_set, 3, some (FieldType.int), [(0, .aload_n 0, 1, 0), (1, .iload_n 1, 2, 0), (2, .invokevirtual 7, 5, 0), (5, .goto 9, 8, 14), (8, .astore_n 2, 9, 0), (9, .iconst 1, 10, 0), (10, .ireturn, 11, 0), (11, .astore_n 2, 12, 0), (12, .iconst 2, 13, 0), (13, .ireturn, 14, 0), (14, .iconst 0, 15, 0), (15, .ireturn, 16, 0)], 7, 112)
def hL_set : List (Nat × Nat × Nat × Nat) := [(0, 5, 8, 13), (0, 5, 11, 15)]
set_option maxRecDepth 100000 in
theorem okL_set : kOKH mL_set hL_set := ⟨kU_of (i := 527) (by decide +kernel) rfl, ⟨by decide +kernel, by decide +kernel, by decide +kernel⟩, by decide +kernel, kU_of (i := 82) (by decide +kernel) rfl⟩
set_option maxRecDepth 100000 in
theorem cl_L_76 : Cond.methodLink RL 76 (my mL_set) ∈ kU ∧ kOKH mL_set hL_set ∧ (parseMethodDescriptor (my mL_set).desc).map (fun d => d.parameters.length) = some 2 := ⟨kU_of (i := 525) (by decide +kernel) rfl, okL_set, by decide +kernel⟩
set_option maxRecDepth 100000 in
theorem is_L_set : Cond.static (my mL_set) ∈ kU := kU_of (i := 526) (by decide +kernel) rfl
def mL_multiply : kM := (99, yL_multiply, cL_multiply, 2, some (FieldType.int), [(0, .aload_n 0, 1, 0), (1, .invokevirtual 17, 4, 0), (4, .goto 6, 7, 10), (7, .astore_n 1, 8, 0), (8, .iconst 1, 9, 0), (9, .ireturn, 10, 0), (10, .iconst 0, 11, 0), (11, .ireturn, 12, 0)], 7, 160)
def hL_multiply : List (Nat × Nat × Nat × Nat) := [(0, 4, 7, 15)]
set_option maxRecDepth 100000 in
theorem okL_multiply : kOKH mL_multiply hL_multiply := ⟨kU_of (i := 620) (by decide +kernel) rfl, ⟨by decide +kernel, by decide +kernel, by decide +kernel⟩, by decide +kernel, kU_of (i := 82) (by decide +kernel) rfl⟩
set_option maxRecDepth 100000 in
theorem cl_L_86 : Cond.methodLink RL 86 (my mL_multiply) ∈ kU ∧ kOKH mL_multiply hL_multiply ∧ (parseMethodDescriptor (my mL_multiply).desc).map (fun d => d.parameters.length) = some 1 := ⟨kU_of (i := 618) (by decide +kernel) rfl, okL_multiply, by decide +kernel⟩
set_option maxRecDepth 100000 in
theorem is_L_multiply : Cond.static (my mL_multiply) ∈ kU := kU_of (i := 619) (by decide +kernel) rfl
def mL_stream : kM := (99, yL_stream, cL_stream, 5, some (FieldType.int), [(0, .aload_n 0, 1, 0), (1, .lload_n 1, 2, 0), (2, .iload_n 3, 3, 0), (3, .invokevirtual 20, 6, 0), (6, .goto 7, 9, 13), (9, .astore 4, 11, 0), (11, .iconst 1, 12, 0), (12, .ireturn, 13, 0), (13, .iconst 0, 14, 0), (14, .ireturn, 15, 0)], 7, 113)
def hL_stream : List (Nat × Nat × Nat × Nat) := [(0, 6, 9, 15)]
set_option maxRecDepth 100000 in
theorem okL_stream : kOKH mL_stream hL_stream := ⟨kU_of (i := 687) (by decide +kernel) rfl, ⟨by decide +kernel, by decide +kernel, by decide +kernel⟩, by decide +kernel, kU_of (i := 82) (by decide +kernel) rfl⟩
set_option maxRecDepth 100000 in
theorem cl_L_94 : Cond.methodLink RL 94 (my mL_stream) ∈ kU ∧ kOKH mL_stream hL_stream ∧ (parseMethodDescriptor (my mL_stream).desc).map (fun d => d.parameters.length) = some 3 := ⟨kU_of (i := 685) (by decide +kernel) rfl, okL_stream, by decide +kernel⟩
set_option maxRecDepth 100000 in
theorem is_L_stream : Cond.static (my mL_stream) ∈ kU := kU_of (i := 686) (by decide +kernel) rfl
def mL_tag : kM := (99, yL_tag, cL_tag, 2, some (FieldType.int), [(0, .aload_n 0, 1, 0), (1, .invokevirtual 24, 4, 0), (4, .goto 6, 7, 10), (7, .astore_n 1, 8, 0), (8, .iconst 1, 9, 0), (9, .ireturn, 10, 0), (10, .iconst 0, 11, 0), (11, .ireturn, 12, 0)], 7, 112)
def hL_tag : List (Nat × Nat × Nat × Nat) := [(0, 4, 7, 15)]
set_option maxRecDepth 100000 in
theorem okL_tag : kOKH mL_tag hL_tag := ⟨kU_of (i := 715) (by decide +kernel) rfl, ⟨by decide +kernel, by decide +kernel, by decide +kernel⟩, by decide +kernel, kU_of (i := 82) (by decide +kernel) rfl⟩
set_option maxRecDepth 100000 in
theorem cl_L_98 : Cond.methodLink RL 98 (my mL_tag) ∈ kU ∧ kOKH mL_tag hL_tag ∧ (parseMethodDescriptor (my mL_tag).desc).map (fun d => d.parameters.length) = some 1 := ⟨kU_of (i := 713) (by decide +kernel) rfl, okL_tag, by decide +kernel⟩
set_option maxRecDepth 100000 in
theorem is_L_tag : Cond.static (my mL_tag) ∈ kU := kU_of (i := 714) (by decide +kernel) rfl
def mL_out : kM := (99, yL_out, cL_out, 4, some (FieldType.int), [(0, .aload_n 2, 1, 0), (1, .iconst 0, 2, 0), (2, .aload_n 0, 3, 0), (3, .iload_n 1, 4, 0), (4, .invokevirtual 27, 7, 0), (7, .i2l, 8, 0), (8, .lastore, 9, 0), (9, .goto 6, 12, 15), (12, .astore_n 3, 13, 0), (13, .iconst 1, 14, 0), (14, .ireturn, 15, 0), (15, .iconst 0, 16, 0), (16, .ireturn, 17, 0)], 8, 131)
def hL_out : List (Nat × Nat × Nat × Nat) := [(0, 9, 12, 13)]
set_option maxRecDepth 100000 in
theorem okL_out : kOKH mL_out hL_out := ⟨kU_of (i := 758) (by decide +kernel) rfl, ⟨by decide +kernel, by decide +kernel, by decide +kernel⟩, by decide +kernel, kU_of (i := 82) (by decide +kernel) rfl⟩
set_option maxRecDepth 100000 in
theorem cl_L_101 : Cond.methodLink RL 101 (my mL_out) ∈ kU ∧ kOKH mL_out hL_out ∧ (parseMethodDescriptor (my mL_out).desc).map (fun d => d.parameters.length) = some 3 := ⟨kU_of (i := 756) (by decide +kernel) rfl, okL_out, by decide +kernel⟩
set_option maxRecDepth 100000 in
theorem is_L_out : Cond.static (my mL_out) ∈ kU := kU_of (i := 757) (by decide +kernel) rfl
def mL_begin : kM := (99, yL_begin, cL_begin, 3, some (FieldType.int), [(0, .aload_n 0, 1, 0), (1, .iload_n 1, 2, 0), (2, .invokevirtual 31, 5, 0), (5, .goto 9, 8, 14), (8, .astore_n 2, 9, 0), (9, .iconst 1, 10, 0), (10, .ireturn, 11, 0), (11, .astore_n 2, 12, 0), (12, .iconst 2, 13, 0), (13, .ireturn, 14, 0), (14, .iconst 0, 15, 0), (15, .ireturn, 16, 0)], 8, 161)
def hL_begin : List (Nat × Nat × Nat × Nat) := [(0, 5, 8, 34), (0, 5, 11, 36)]
set_option maxRecDepth 100000 in
theorem okL_begin : kOKH mL_begin hL_begin := ⟨kU_of (i := 772) (by decide +kernel) rfl, ⟨by decide +kernel, by decide +kernel, by decide +kernel⟩, by decide +kernel, kU_of (i := 82) (by decide +kernel) rfl⟩
set_option maxRecDepth 100000 in
theorem cl_L_105 : Cond.methodLink RL 105 (my mL_begin) ∈ kU ∧ kOKH mL_begin hL_begin ∧ (parseMethodDescriptor (my mL_begin).desc).map (fun d => d.parameters.length) = some 2 := ⟨kU_of (i := 770) (by decide +kernel) rfl, okL_begin, by decide +kernel⟩
set_option maxRecDepth 100000 in
theorem is_L_begin : Cond.static (my mL_begin) ∈ kU := kU_of (i := 771) (by decide +kernel) rfl
def mL_send : kM := (99, yL_send, cL_send, 3, some (FieldType.int), [(0, .aload_n 0, 1, 0), (1, .iload_n 1, 2, 0), (2, .invokevirtual 38, 5, 0), (5, .goto 12, 8, 17), (8, .astore_n 2, 9, 0), (9, .iconst 1, 10, 0), (10, .ireturn, 11, 0), (11, .astore_n 2, 12, 0), (12, .iconst 2, 13, 0), (13, .ireturn, 14, 0), (14, .astore_n 2, 15, 0), (15, .iconst 3, 16, 0), (16, .ireturn, 17, 0), (17, .iconst 0, 18, 0), (18, .ireturn, 19, 0)], 8, 163)
def hL_send : List (Nat × Nat × Nat × Nat) := [(0, 5, 8, 34), (0, 5, 11, 15), (0, 5, 14, 36)]
set_option maxRecDepth 100000 in
theorem okL_send : kOKH mL_send hL_send := ⟨kU_of (i := 848) (by decide +kernel) rfl, ⟨by decide +kernel, by decide +kernel, by decide +kernel⟩, by decide +kernel, kU_of (i := 82) (by decide +kernel) rfl⟩
set_option maxRecDepth 100000 in
theorem cl_L_108 : Cond.methodLink RL 108 (my mL_send) ∈ kU ∧ kOKH mL_send hL_send ∧ (parseMethodDescriptor (my mL_send).desc).map (fun d => d.parameters.length) = some 2 := ⟨kU_of (i := 846) (by decide +kernel) rfl, okL_send, by decide +kernel⟩
set_option maxRecDepth 100000 in
theorem is_L_send : Cond.static (my mL_send) ∈ kU := kU_of (i := 847) (by decide +kernel) rfl
def mL_come : kM := (99, yL_come, cL_come, 4, some (FieldType.int), [(0, .aload_n 2, 1, 0), (1, .iconst 0, 2, 0), (2, .aload_n 0, 3, 0), (3, .iload_n 1, 4, 0), (4, .invokevirtual 41, 7, 0), (7, .i2l, 8, 0), (8, .lastore, 9, 0), (9, .goto 6, 12, 15), (12, .astore_n 3, 13, 0), (13, .iconst 1, 14, 0), (14, .ireturn, 15, 0), (15, .iconst 0, 16, 0), (16, .ireturn, 17, 0)], 8, 227)
def hL_come : List (Nat × Nat × Nat × Nat) := [(0, 9, 12, 34)]
set_option maxRecDepth 100000 in
theorem okL_come : kOKH mL_come hL_come := ⟨kU_of (i := 858) (by decide +kernel) rfl, ⟨by decide +kernel, by decide +kernel, by decide +kernel⟩, by decide +kernel, kU_of (i := 82) (by decide +kernel) rfl⟩
set_option maxRecDepth 100000 in
theorem cl_L_111 : Cond.methodLink RL 111 (my mL_come) ∈ kU ∧ kOKH mL_come hL_come ∧ (parseMethodDescriptor (my mL_come).desc).map (fun d => d.parameters.length) = some 3 := ⟨kU_of (i := 856) (by decide +kernel) rfl, okL_come, by decide +kernel⟩
set_option maxRecDepth 100000 in
theorem is_L_come : Cond.static (my mL_come) ∈ kU := kU_of (i := 857) (by decide +kernel) rfl
def mL_run : kM := (99, yL_run, cL_run, 4, some (FieldType.int), [(0, .aload_n 2, 1, 0), (1, .iconst 0, 2, 0), (2, .aload_n 0, 3, 0), (3, .iload_n 1, 4, 0), (4, .invokevirtual 44, 7, 0), (7, .i2l, 8, 0), (8, .lastore, 9, 0), (9, .goto 6, 12, 15), (12, .astore_n 3, 13, 0), (13, .iconst 1, 14, 0), (14, .ireturn, 15, 0), (15, .iconst 0, 16, 0), (16, .ireturn, 17, 0)], 8, 230)
def hL_run : List (Nat × Nat × Nat × Nat) := [(0, 9, 12, 15)]
set_option maxRecDepth 100000 in
theorem okL_run : kOKH mL_run hL_run := ⟨kU_of (i := 964) (by decide +kernel) rfl, ⟨by decide +kernel, by decide +kernel, by decide +kernel⟩, by decide +kernel, kU_of (i := 82) (by decide +kernel) rfl⟩
set_option maxRecDepth 100000 in
theorem cl_L_114 : Cond.methodLink RL 114 (my mL_run) ∈ kU ∧ kOKH mL_run hL_run ∧ (parseMethodDescriptor (my mL_run).desc).map (fun d => d.parameters.length) = some 3 := ⟨kU_of (i := 962) (by decide +kernel) rfl, okL_run, by decide +kernel⟩
set_option maxRecDepth 100000 in
theorem is_L_run : Cond.static (my mL_run) ∈ kU := kU_of (i := 963) (by decide +kernel) rfl
def mL_packet : kM := (99, yL_packet, cL_packet, 6, some (FieldType.int), [(0, .aload 4, 2, 0), (2, .iconst 0, 3, 0), (3, .aload_n 0, 4, 0), (4, .iload_n 1, 5, 0), (5, .iload_n 2, 6, 0), (6, .iload_n 3, 7, 0), (7, .invokevirtual 47, 10, 0), (10, .i2l, 11, 0), (11, .lastore, 12, 0), (12, .goto 11, 15, 23), (15, .astore 5, 17, 0), (17, .iconst 1, 18, 0), (18, .ireturn, 19, 0), (19, .astore 5, 21, 0), (21, .iconst 2, 22, 0), (22, .ireturn, 23, 0), (23, .iconst 0, 24, 0), (24, .ireturn, 25, 0)], 8, 134)
def hL_packet : List (Nat × Nat × Nat × Nat) := [(0, 12, 15, 34), (0, 12, 19, 13)]
set_option maxRecDepth 100000 in
theorem okL_packet : kOKH mL_packet hL_packet := ⟨kU_of (i := 971) (by decide +kernel) rfl, ⟨by decide +kernel, by decide +kernel, by decide +kernel⟩, by decide +kernel, kU_of (i := 82) (by decide +kernel) rfl⟩
set_option maxRecDepth 100000 in
theorem cl_L_117 : Cond.methodLink RL 117 (my mL_packet) ∈ kU ∧ kOKH mL_packet hL_packet ∧ (parseMethodDescriptor (my mL_packet).desc).map (fun d => d.parameters.length) = some 5 := ⟨kU_of (i := 969) (by decide +kernel) rfl, okL_packet, by decide +kernel⟩
set_option maxRecDepth 100000 in
theorem is_L_packet : Cond.static (my mL_packet) ∈ kU := kU_of (i := 970) (by decide +kernel) rfl
def mL_damage : kM := (99, yL_damage, cL_damage, 6, some (FieldType.int), [(0, .aload_n 0, 1, 0), (1, .iload_n 1, 2, 0), (2, .iload_n 2, 3, 0), (3, .iload_n 3, 4, 0), (4, .iload 4, 6, 0), (6, .invokevirtual 51, 9, 0), (9, .goto 15, 12, 24), (12, .astore 5, 14, 0), (14, .iconst 1, 15, 0), (15, .ireturn, 16, 0), (16, .astore 5, 18, 0), (18, .iconst 2, 19, 0), (19, .ireturn, 20, 0), (20, .astore 5, 22, 0), (22, .iconst 3, 23, 0), (23, .ireturn, 24, 0), (24, .iconst 0, 25, 0), (25, .ireturn, 26, 0)], 8, 135)
def hL_damage : List (Nat × Nat × Nat × Nat) := [(0, 9, 12, 34), (0, 9, 16, 13), (0, 9, 20, 15)]
set_option maxRecDepth 100000 in
theorem okL_damage : kOKH mL_damage hL_damage := ⟨kU_of (i := 982) (by decide +kernel) rfl, ⟨by decide +kernel, by decide +kernel, by decide +kernel⟩, by decide +kernel, kU_of (i := 82) (by decide +kernel) rfl⟩
set_option maxRecDepth 100000 in
theorem cl_L_121 : Cond.methodLink RL 121 (my mL_damage) ∈ kU ∧ kOKH mL_damage hL_damage ∧ (parseMethodDescriptor (my mL_damage).desc).map (fun d => d.parameters.length) = some 5 := ⟨kU_of (i := 980) (by decide +kernel) rfl, okL_damage, by decide +kernel⟩
set_option maxRecDepth 100000 in
theorem is_L_damage : Cond.static (my mL_damage) ∈ kU := kU_of (i := 981) (by decide +kernel) rfl
def mL_got : kM := (99, yL_got, cL_got, 5, some (FieldType.int), [(0, .aload_n 3, 1, 0), (1, .iconst 0, 2, 0), (2, .aload_n 0, 3, 0), (3, .iload_n 1, 4, 0), (4, .iload_n 2, 5, 0), (5, .invokevirtual 55, 8, 0), (8, .i2l, 9, 0), (9, .lastore, 10, 0), (10, .goto 11, 13, 21), (13, .astore 4, 15, 0), (15, .iconst 1, 16, 0), (16, .ireturn, 17, 0), (17, .astore 4, 19, 0), (19, .iconst 2, 20, 0), (20, .ireturn, 21, 0), (21, .iconst 0, 22, 0), (22, .ireturn, 23, 0)], 8, 132)
def hL_got : List (Nat × Nat × Nat × Nat) := [(0, 10, 13, 34), (0, 10, 17, 13)]
set_option maxRecDepth 100000 in
theorem okL_got : kOKH mL_got hL_got := ⟨kU_of (i := 989) (by decide +kernel) rfl, ⟨by decide +kernel, by decide +kernel, by decide +kernel⟩, by decide +kernel, kU_of (i := 82) (by decide +kernel) rfl⟩
set_option maxRecDepth 100000 in
theorem cl_L_125 : Cond.methodLink RL 125 (my mL_got) ∈ kU ∧ kOKH mL_got hL_got ∧ (parseMethodDescriptor (my mL_got).desc).map (fun d => d.parameters.length) = some 4 := ⟨kU_of (i := 987) (by decide +kernel) rfl, okL_got, by decide +kernel⟩
set_option maxRecDepth 100000 in
theorem is_L_got : Cond.static (my mL_got) ∈ kU := kU_of (i := 988) (by decide +kernel) rfl
def mL_about : kM := (99, yL_about, cL_about, 5, some (FieldType.int), [(0, .aload_n 3, 1, 0), (1, .iconst 0, 2, 0), (2, .aload_n 0, 3, 0), (3, .iload_n 1, 4, 0), (4, .iload_n 2, 5, 0), (5, .invokevirtual 59, 8, 0), (8, .i2l, 9, 0), (9, .lastore, 10, 0), (10, .goto 11, 13, 21), (13, .astore 4, 15, 0), (15, .iconst 1, 16, 0), (16, .ireturn, 17, 0), (17, .astore 4, 19, 0), (19, .iconst 2, 20, 0), (20, .ireturn, 21, 0), (21, .iconst 0, 22, 0), (22, .ireturn, 23, 0)], 8, 133)
def hL_about : List (Nat × Nat × Nat × Nat) := [(0, 10, 13, 34), (0, 10, 17, 13)]
set_option maxRecDepth 100000 in
theorem okL_about : kOKH mL_about hL_about := ⟨kU_of (i := 996) (by decide +kernel) rfl, ⟨by decide +kernel, by decide +kernel, by decide +kernel⟩, by decide +kernel, kU_of (i := 82) (by decide +kernel) rfl⟩
set_option maxRecDepth 100000 in
theorem cl_L_129 : Cond.methodLink RL 129 (my mL_about) ∈ kU ∧ kOKH mL_about hL_about ∧ (parseMethodDescriptor (my mL_about).desc).map (fun d => d.parameters.length) = some 4 := ⟨kU_of (i := 994) (by decide +kernel) rfl, okL_about, by decide +kernel⟩
set_option maxRecDepth 100000 in
theorem is_L_about : Cond.static (my mL_about) ∈ kU := kU_of (i := 995) (by decide +kernel) rfl
def mL_session : kM := (99, yL_session, cL_session, 5, some (FieldType.int), [(0, .aload_n 3, 1, 0), (1, .iconst 0, 2, 0), (2, .aload_n 0, 3, 0), (3, .iload_n 1, 4, 0), (4, .iload_n 2, 5, 0), (5, .invokevirtual 62, 8, 0), (8, .i2l, 9, 0), (9, .lastore, 10, 0), (10, .goto 15, 13, 25), (13, .astore 4, 15, 0), (15, .iconst 1, 16, 0), (16, .ireturn, 17, 0), (17, .astore 4, 19, 0), (19, .iconst 2, 20, 0), (20, .ireturn, 21, 0), (21, .astore 4, 23, 0), (23, .iconst 3, 24, 0), (24, .ireturn, 25, 0), (25, .iconst 0, 26, 0), (26, .ireturn, 27, 0)], 8, 133)
def hL_session : List (Nat × Nat × Nat × Nat) := [(0, 10, 13, 34), (0, 10, 17, 13), (0, 10, 21, 36)]
set_option maxRecDepth 100000 in
theorem okL_session : kOKH mL_session hL_session := ⟨kU_of (i := 1003) (by decide +kernel) rfl, ⟨by decide +kernel, by decide +kernel, by decide +kernel⟩, by decide +kernel, kU_of (i := 82) (by decide +kernel) rfl⟩
set_option maxRecDepth 100000 in
theorem cl_L_132 : Cond.methodLink RL 132 (my mL_session) ∈ kU ∧ kOKH mL_session hL_session ∧ (parseMethodDescriptor (my mL_session).desc).map (fun d => d.parameters.length) = some 4 := ⟨kU_of (i := 1001) (by decide +kernel) rfl, okL_session, by decide +kernel⟩
set_option maxRecDepth 100000 in
theorem is_L_session : Cond.static (my mL_session) ∈ kU := kU_of (i := 1002) (by decide +kernel) rfl
