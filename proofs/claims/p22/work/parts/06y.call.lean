theorem yk_RJ3 : RJ3 ≠ "java/lang/invoke/MethodHandle" ∧ RJ3 ≠ "java/lang/invoke/VarHandle" := ⟨by decide +kernel, by decide +kernel⟩
theorem yk_RJ0 : RJ0 ≠ "java/lang/invoke/MethodHandle" ∧ RJ0 ≠ "java/lang/invoke/VarHandle" := ⟨by decide +kernel, by decide +kernel⟩
theorem yk_RJ1 : RJ1 ≠ "java/lang/invoke/MethodHandle" ∧ RJ1 ≠ "java/lang/invoke/VarHandle" := ⟨by decide +kernel, by decide +kernel⟩
theorem yk_RX0 : RX0 ≠ "java/lang/invoke/MethodHandle" ∧ RX0 ≠ "java/lang/invoke/VarHandle" := ⟨by decide +kernel, by decide +kernel⟩
theorem yk_RX5 : RX5 ≠ "java/lang/invoke/MethodHandle" ∧ RX5 ≠ "java/lang/invoke/VarHandle" := ⟨by decide +kernel, by decide +kernel⟩
theorem yk_RX6 : RX6 ≠ "java/lang/invoke/MethodHandle" ∧ RX6 ≠ "java/lang/invoke/VarHandle" := ⟨by decide +kernel, by decide +kernel⟩
theorem yk_RX1 : RX1 ≠ "java/lang/invoke/MethodHandle" ∧ RX1 ≠ "java/lang/invoke/VarHandle" := ⟨by decide +kernel, by decide +kernel⟩
theorem yk_RX4 : RX4 ≠ "java/lang/invoke/MethodHandle" ∧ RX4 ≠ "java/lang/invoke/VarHandle" := ⟨by decide +kernel, by decide +kernel⟩
theorem yk_RX10 : RX10 ≠ "java/lang/invoke/MethodHandle" ∧ RX10 ≠ "java/lang/invoke/VarHandle" := ⟨by decide +kernel, by decide +kernel⟩
theorem yk_RX7 : RX7 ≠ "java/lang/invoke/MethodHandle" ∧ RX7 ≠ "java/lang/invoke/VarHandle" := ⟨by decide +kernel, by decide +kernel⟩
theorem yk_RX3 : RX3 ≠ "java/lang/invoke/MethodHandle" ∧ RX3 ≠ "java/lang/invoke/VarHandle" := ⟨by decide +kernel, by decide +kernel⟩
theorem yk_RX9 : RX9 ≠ "java/lang/invoke/MethodHandle" ∧ RX9 ≠ "java/lang/invoke/VarHandle" := ⟨by decide +kernel, by decide +kernel⟩
theorem yk_RX11 : RX11 ≠ "java/lang/invoke/MethodHandle" ∧ RX11 ≠ "java/lang/invoke/VarHandle" := ⟨by decide +kernel, by decide +kernel⟩
theorem yk_RX2 : RX2 ≠ "java/lang/invoke/MethodHandle" ∧ RX2 ≠ "java/lang/invoke/VarHandle" := ⟨by decide +kernel, by decide +kernel⟩
theorem yk_RJ6 : RJ6 ≠ "java/lang/invoke/MethodHandle" ∧ RJ6 ≠ "java/lang/invoke/VarHandle" := ⟨by decide +kernel, by decide +kernel⟩
theorem yk_RJ13 : RJ13 ≠ "java/lang/invoke/MethodHandle" ∧ RJ13 ≠ "java/lang/invoke/VarHandle" := ⟨by decide +kernel, by decide +kernel⟩
theorem yd_0 : (parseMethodDescriptor "(IILjava/util/function/BiFunction;)I").map (fun d => d.parameters.length) = some 3 := by decide +kernel
theorem yd_1 : (parseMethodDescriptor "()B").map (fun d => d.parameters.length) = some 0 := by decide +kernel
theorem yd_2 : (parseMethodDescriptor "()Z").map (fun d => d.parameters.length) = some 0 := by decide +kernel
theorem yd_3 : (parseMethodDescriptor "([BI)C").map (fun d => d.parameters.length) = some 2 := by decide +kernel
theorem yd_4 : (parseMethodDescriptor "(II)V").map (fun d => d.parameters.length) = some 2 := by decide +kernel
theorem yd_5 : (parseMethodDescriptor "(II)Z").map (fun d => d.parameters.length) = some 2 := by decide +kernel
theorem yd_6 : (parseMethodDescriptor "(III)V").map (fun d => d.parameters.length) = some 3 := by decide +kernel
theorem yd_7 : (parseMethodDescriptor "(III)Z").map (fun d => d.parameters.length) = some 3 := by decide +kernel
theorem yd_8 : (parseMethodDescriptor "(I)Z").map (fun d => d.parameters.length) = some 1 := by decide +kernel
theorem yd_9 : (parseMethodDescriptor "(I)V").map (fun d => d.parameters.length) = some 1 := by decide +kernel
theorem yd_10 : (parseMethodDescriptor "([II)V").map (fun d => d.parameters.length) = some 2 := by decide +kernel
theorem yd_11 : (parseMethodDescriptor "(Z)Z").map (fun d => d.parameters.length) = some 1 := by decide +kernel
theorem yd_12 : (parseMethodDescriptor "(LStonesOfWeight$Rules;)V").map (fun d => d.parameters.length) = some 1 := by decide +kernel
theorem yd_13 : (parseMethodDescriptor "(IIIII)Z").map (fun d => d.parameters.length) = some 5 := by decide +kernel
theorem yd_14 : (parseMethodDescriptor "(LStonesOfWeight$State;I)Z").map (fun d => d.parameters.length) = some 2 := by decide +kernel
theorem yd_15 : (parseMethodDescriptor "(LStonesOfWeight$Book;I)Z").map (fun d => d.parameters.length) = some 2 := by decide +kernel
theorem yd_16 : (parseMethodDescriptor "(II)I").map (fun d => d.parameters.length) = some 2 := by decide +kernel
theorem yd_17 : (parseMethodDescriptor "(LStonesOfWeight$State;II)I").map (fun d => d.parameters.length) = some 3 := by decide +kernel
theorem yd_18 : (parseMethodDescriptor "(I)I").map (fun d => d.parameters.length) = some 1 := by decide +kernel
theorem yd_19 : (parseMethodDescriptor "(IIII)I").map (fun d => d.parameters.length) = some 4 := by decide +kernel
theorem yd_20 : (parseMethodDescriptor "(LStonesOfWeight$Pile;II)V").map (fun d => d.parameters.length) = some 3 := by decide +kernel
theorem yd_21 : (parseMethodDescriptor "(LStonesOfWeight$Pile;II)I").map (fun d => d.parameters.length) = some 3 := by decide +kernel
theorem yd_22 : (parseMethodDescriptor "(LStonesOfWeight$Pile;II)J").map (fun d => d.parameters.length) = some 3 := by decide +kernel
theorem yd_23 : (parseMethodDescriptor "(I[I)Z").map (fun d => d.parameters.length) = some 2 := by decide +kernel
theorem yd_24 : (parseMethodDescriptor "(III)I").map (fun d => d.parameters.length) = some 3 := by decide +kernel
theorem yd_25 : (parseMethodDescriptor "(LStonesOfWeight$Book;II)I").map (fun d => d.parameters.length) = some 3 := by decide +kernel
theorem yd_26 : (parseMethodDescriptor "(LStonesOfWeight$Pile;I)I").map (fun d => d.parameters.length) = some 2 := by decide +kernel
theorem yd_27 : (parseMethodDescriptor "()I").map (fun d => d.parameters.length) = some 0 := by decide +kernel
theorem yd_28 : (parseMethodDescriptor "([IIII)V").map (fun d => d.parameters.length) = some 4 := by decide +kernel
theorem yd_29 : (parseMethodDescriptor "()V").map (fun d => d.parameters.length) = some 0 := by decide +kernel
theorem yd_30 : (parseMethodDescriptor "(J)Z").map (fun d => d.parameters.length) = some 1 := by decide +kernel
theorem yd_31 : (parseMethodDescriptor "(Z)I").map (fun d => d.parameters.length) = some 1 := by decide +kernel
theorem yd_32 : (parseMethodDescriptor "(ZII)Z").map (fun d => d.parameters.length) = some 3 := by decide +kernel
theorem yd_33 : (parseMethodDescriptor "(III)J").map (fun d => d.parameters.length) = some 3 := by decide +kernel
theorem yd_34 : (parseMethodDescriptor "(II)J").map (fun d => d.parameters.length) = some 2 := by decide +kernel
theorem yd_35 : (parseMethodDescriptor "(I)J").map (fun d => d.parameters.length) = some 1 := by decide +kernel
theorem yd_36 : (parseMethodDescriptor "(J)I").map (fun d => d.parameters.length) = some 1 := by decide +kernel
theorem yd_37 : (parseMethodDescriptor "(LStonesOfWeight$Book;III)Z").map (fun d => d.parameters.length) = some 4 := by decide +kernel
theorem yd_38 : (parseMethodDescriptor "(LStonesOfWeight$Book;LStonesOfWeight$Rules;I)V").map (fun d => d.parameters.length) = some 3 := by decide +kernel
theorem yd_39 : (parseMethodDescriptor "(LStonesOfWeight$Book;I)V").map (fun d => d.parameters.length) = some 2 := by decide +kernel
theorem yd_40 : (parseMethodDescriptor "(LStonesOfWeight$State;III)Z").map (fun d => d.parameters.length) = some 4 := by decide +kernel
theorem yd_41 : (parseMethodDescriptor "(LStonesOfWeight$State;I)V").map (fun d => d.parameters.length) = some 2 := by decide +kernel
theorem yd_42 : (parseMethodDescriptor "(IZIII)V").map (fun d => d.parameters.length) = some 5 := by decide +kernel
theorem yd_43 : (parseMethodDescriptor "(IIII)V").map (fun d => d.parameters.length) = some 4 := by decide +kernel
theorem yd_44 : (parseMethodDescriptor "(I)C").map (fun d => d.parameters.length) = some 1 := by decide +kernel
theorem yd_45 : (parseMethodDescriptor "(Ljava/lang/String;)I").map (fun d => d.parameters.length) = some 1 := by decide +kernel
theorem yd_46 : (parseMethodDescriptor "(LStonesOfWeight$Pile;I)V").map (fun d => d.parameters.length) = some 2 := by decide +kernel
theorem yd_47 : (parseMethodDescriptor "(IIII)J").map (fun d => d.parameters.length) = some 4 := by decide +kernel
theorem yd_48 : (parseMethodDescriptor "(JJ)I").map (fun d => d.parameters.length) = some 2 := by decide +kernel
theorem yd_49 : (parseMethodDescriptor "(LStonesOfWeight$Book;)V").map (fun d => d.parameters.length) = some 1 := by decide +kernel
theorem yd_50 : (parseMethodDescriptor "(LStonesOfWeight$Tape;)V").map (fun d => d.parameters.length) = some 1 := by decide +kernel
theorem yd_51 : (parseMethodDescriptor "(LStonesOfWeight$Choice;)V").map (fun d => d.parameters.length) = some 1 := by decide +kernel
theorem yd_52 : (parseMethodDescriptor "(IIIII)I").map (fun d => d.parameters.length) = some 5 := by decide +kernel
